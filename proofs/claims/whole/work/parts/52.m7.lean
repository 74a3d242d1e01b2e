abbrev b_Mo_counted32 : ByteArray := prog_14_method_43_code
def y_Mo_counted32 : MethodName := ⟨R_Mo, "counted32", "(II)J"⟩
abbrev b_Mo_counted64 : ByteArray := prog_14_method_44_code
def y_Mo_counted64 : MethodName := ⟨R_Mo, "counted64", "(IJ)J"⟩
abbrev b_Mo_compared : ByteArray := prog_14_method_45_code
def y_Mo_compared : MethodName := ⟨R_Mo, "compared", "(IJJZ)J"⟩
abbrev b_Mo_over : ByteArray := prog_14_method_47_code
def y_Mo_over : MethodName := ⟨R_Mo, "over", "(JJ)J"⟩
abbrev b_Mo_worked : ByteArray := prog_14_method_46_code
def y_Mo_worked : MethodName := ⟨R_Mo, "worked", "(IJJZ)J"⟩
abbrev b_Mo_numbers : ByteArray := prog_14_method_42_code
def y_Mo_numbers : MethodName := ⟨R_Mo, "numbers", "(I)V"⟩
theorem d_Mo_counted32_0 : decode b_Mo_counted32 0 = .ok (.iconst 0, 1) := by decide +kernel
theorem d_Mo_counted32_1 : decode b_Mo_counted32 1 = .ok (.istore_n 2, 1) := by decide +kernel
theorem d_Mo_counted32_2 : decode b_Mo_counted32 2 = .ok (.iload_n 0, 1) := by decide +kernel
theorem d_Mo_counted32_3 : decode b_Mo_counted32 3 = .ok (.bipush 103, 2) := by decide +kernel
theorem d_Mo_counted32_5 : decode b_Mo_counted32 5 = .ok (.if_icmp .ne 21, 3) := by decide +kernel
theorem d_Mo_counted32_8 : decode b_Mo_counted32 8 = .ok (.iload_n 2, 1) := by decide +kernel
theorem d_Mo_counted32_9 : decode b_Mo_counted32 9 = .ok (.bipush 32, 2) := by decide +kernel
theorem d_Mo_counted32_11 : decode b_Mo_counted32 11 = .ok (.if_icmp .ge 63, 3) := by decide +kernel
theorem d_Mo_counted32_14 : decode b_Mo_counted32 14 = .ok (.iload_n 1, 1) := by decide +kernel
theorem d_Mo_counted32_15 : decode b_Mo_counted32 15 = .ok (.iload_n 2, 1) := by decide +kernel
theorem d_Mo_counted32_16 : decode b_Mo_counted32 16 = .ok (.ishl, 1) := by decide +kernel
theorem d_Mo_counted32_17 : decode b_Mo_counted32 17 = .ok (.ifCond .lt 57, 3) := by decide +kernel
theorem d_Mo_counted32_20 : decode b_Mo_counted32 20 = .ok (.iinc 2 1, 3) := by decide +kernel
theorem d_Mo_counted32_23 : decode b_Mo_counted32 23 = .ok (.goto (-15), 3) := by decide +kernel
theorem d_Mo_counted32_26 : decode b_Mo_counted32 26 = .ok (.iload_n 0, 1) := by decide +kernel
theorem d_Mo_counted32_27 : decode b_Mo_counted32 27 = .ok (.bipush 104, 2) := by decide +kernel
theorem d_Mo_counted32_29 : decode b_Mo_counted32 29 = .ok (.if_icmp .ne 23, 3) := by decide +kernel
theorem d_Mo_counted32_32 : decode b_Mo_counted32 32 = .ok (.iload_n 2, 1) := by decide +kernel
theorem d_Mo_counted32_33 : decode b_Mo_counted32 33 = .ok (.bipush 32, 2) := by decide +kernel
theorem d_Mo_counted32_35 : decode b_Mo_counted32 35 = .ok (.if_icmp .ge 39, 3) := by decide +kernel
theorem d_Mo_counted32_38 : decode b_Mo_counted32 38 = .ok (.iload_n 1, 1) := by decide +kernel
theorem d_Mo_counted32_39 : decode b_Mo_counted32 39 = .ok (.iload_n 2, 1) := by decide +kernel
theorem d_Mo_counted32_40 : decode b_Mo_counted32 40 = .ok (.ishr, 1) := by decide +kernel
theorem d_Mo_counted32_41 : decode b_Mo_counted32 41 = .ok (.iconst 1, 1) := by decide +kernel
theorem d_Mo_counted32_42 : decode b_Mo_counted32 42 = .ok (.iand, 1) := by decide +kernel
theorem d_Mo_counted32_43 : decode b_Mo_counted32 43 = .ok (.ifCond .ne 31, 3) := by decide +kernel
theorem d_Mo_counted32_46 : decode b_Mo_counted32 46 = .ok (.iinc 2 1, 3) := by decide +kernel
theorem d_Mo_counted32_49 : decode b_Mo_counted32 49 = .ok (.goto (-17), 3) := by decide +kernel
theorem d_Mo_counted32_52 : decode b_Mo_counted32 52 = .ok (.iconst 0, 1) := by decide +kernel
theorem d_Mo_counted32_53 : decode b_Mo_counted32 53 = .ok (.istore_n 3, 1) := by decide +kernel
theorem d_Mo_counted32_54 : decode b_Mo_counted32 54 = .ok (.iload_n 3, 1) := by decide +kernel
theorem d_Mo_counted32_55 : decode b_Mo_counted32 55 = .ok (.bipush 32, 2) := by decide +kernel
theorem d_Mo_counted32_57 : decode b_Mo_counted32 57 = .ok (.if_icmp .ge 17, 3) := by decide +kernel
theorem d_Mo_counted32_60 : decode b_Mo_counted32 60 = .ok (.iload_n 2, 1) := by decide +kernel
theorem d_Mo_counted32_61 : decode b_Mo_counted32 61 = .ok (.iload_n 1, 1) := by decide +kernel
theorem d_Mo_counted32_62 : decode b_Mo_counted32 62 = .ok (.iload_n 3, 1) := by decide +kernel
theorem d_Mo_counted32_63 : decode b_Mo_counted32 63 = .ok (.ishr, 1) := by decide +kernel
theorem d_Mo_counted32_64 : decode b_Mo_counted32 64 = .ok (.iconst 1, 1) := by decide +kernel
theorem d_Mo_counted32_65 : decode b_Mo_counted32 65 = .ok (.iand, 1) := by decide +kernel
theorem d_Mo_counted32_66 : decode b_Mo_counted32 66 = .ok (.iadd, 1) := by decide +kernel
theorem d_Mo_counted32_67 : decode b_Mo_counted32 67 = .ok (.istore_n 2, 1) := by decide +kernel
theorem d_Mo_counted32_68 : decode b_Mo_counted32 68 = .ok (.iinc 3 1, 3) := by decide +kernel
theorem d_Mo_counted32_71 : decode b_Mo_counted32 71 = .ok (.goto (-17), 3) := by decide +kernel
theorem d_Mo_counted32_74 : decode b_Mo_counted32 74 = .ok (.iload_n 0, 1) := by decide +kernel
theorem d_Mo_counted32_75 : decode b_Mo_counted32 75 = .ok (.bipush 103, 2) := by decide +kernel
theorem d_Mo_counted32_77 : decode b_Mo_counted32 77 = .ok (.if_icmp .ne 13, 3) := by decide +kernel
theorem d_Mo_counted32_80 : decode b_Mo_counted32 80 = .ok (.iload_n 1, 1) := by decide +kernel
theorem d_Mo_counted32_81 : decode b_Mo_counted32 81 = .ok (.ifCond .ne 9, 3) := by decide +kernel
theorem d_Mo_counted32_84 : decode b_Mo_counted32 84 = .ok (.ldc2_w 368, 3) := by decide +kernel
theorem d_Mo_counted32_87 : decode b_Mo_counted32 87 = .ok (.goto 5, 3) := by decide +kernel
theorem d_Mo_counted32_90 : decode b_Mo_counted32 90 = .ok (.iload_n 2, 1) := by decide +kernel
theorem d_Mo_counted32_91 : decode b_Mo_counted32 91 = .ok (.i2l, 1) := by decide +kernel
theorem d_Mo_counted32_92 : decode b_Mo_counted32 92 = .ok (.lreturn, 1) := by decide +kernel
theorem d_Mo_counted64_0 : decode b_Mo_counted64 0 = .ok (.iconst 0, 1) := by decide +kernel
theorem d_Mo_counted64_1 : decode b_Mo_counted64 1 = .ok (.istore_n 3, 1) := by decide +kernel
theorem d_Mo_counted64_2 : decode b_Mo_counted64 2 = .ok (.iload_n 0, 1) := by decide +kernel
theorem d_Mo_counted64_3 : decode b_Mo_counted64 3 = .ok (.bipush 103, 2) := by decide +kernel
theorem d_Mo_counted64_5 : decode b_Mo_counted64 5 = .ok (.if_icmp .ne 23, 3) := by decide +kernel
theorem d_Mo_counted64_8 : decode b_Mo_counted64 8 = .ok (.iload_n 3, 1) := by decide +kernel
theorem d_Mo_counted64_9 : decode b_Mo_counted64 9 = .ok (.bipush 64, 2) := by decide +kernel
theorem d_Mo_counted64_11 : decode b_Mo_counted64 11 = .ok (.if_icmp .ge 71, 3) := by decide +kernel
theorem d_Mo_counted64_14 : decode b_Mo_counted64 14 = .ok (.lload_n 1, 1) := by decide +kernel
theorem d_Mo_counted64_15 : decode b_Mo_counted64 15 = .ok (.iload_n 3, 1) := by decide +kernel
theorem d_Mo_counted64_16 : decode b_Mo_counted64 16 = .ok (.lshl, 1) := by decide +kernel
theorem d_Mo_counted64_17 : decode b_Mo_counted64 17 = .ok (.lconst 0, 1) := by decide +kernel
theorem d_Mo_counted64_18 : decode b_Mo_counted64 18 = .ok (.lcmp, 1) := by decide +kernel
theorem d_Mo_counted64_19 : decode b_Mo_counted64 19 = .ok (.ifCond .lt 63, 3) := by decide +kernel
theorem d_Mo_counted64_22 : decode b_Mo_counted64 22 = .ok (.iinc 3 1, 3) := by decide +kernel
theorem d_Mo_counted64_25 : decode b_Mo_counted64 25 = .ok (.goto (-17), 3) := by decide +kernel
theorem d_Mo_counted64_28 : decode b_Mo_counted64 28 = .ok (.iload_n 0, 1) := by decide +kernel
theorem d_Mo_counted64_29 : decode b_Mo_counted64 29 = .ok (.bipush 104, 2) := by decide +kernel
theorem d_Mo_counted64_31 : decode b_Mo_counted64 31 = .ok (.if_icmp .ne 25, 3) := by decide +kernel
theorem d_Mo_counted64_34 : decode b_Mo_counted64 34 = .ok (.iload_n 3, 1) := by decide +kernel
theorem d_Mo_counted64_35 : decode b_Mo_counted64 35 = .ok (.bipush 64, 2) := by decide +kernel
theorem d_Mo_counted64_37 : decode b_Mo_counted64 37 = .ok (.if_icmp .ge 45, 3) := by decide +kernel
theorem d_Mo_counted64_40 : decode b_Mo_counted64 40 = .ok (.lload_n 1, 1) := by decide +kernel
theorem d_Mo_counted64_41 : decode b_Mo_counted64 41 = .ok (.iload_n 3, 1) := by decide +kernel
theorem d_Mo_counted64_42 : decode b_Mo_counted64 42 = .ok (.lshr, 1) := by decide +kernel
theorem d_Mo_counted64_43 : decode b_Mo_counted64 43 = .ok (.lconst 1, 1) := by decide +kernel
theorem d_Mo_counted64_44 : decode b_Mo_counted64 44 = .ok (.land, 1) := by decide +kernel
theorem d_Mo_counted64_45 : decode b_Mo_counted64 45 = .ok (.lconst 0, 1) := by decide +kernel
theorem d_Mo_counted64_46 : decode b_Mo_counted64 46 = .ok (.lcmp, 1) := by decide +kernel
theorem d_Mo_counted64_47 : decode b_Mo_counted64 47 = .ok (.ifCond .ne 35, 3) := by decide +kernel
theorem d_Mo_counted64_50 : decode b_Mo_counted64 50 = .ok (.iinc 3 1, 3) := by decide +kernel
theorem d_Mo_counted64_53 : decode b_Mo_counted64 53 = .ok (.goto (-19), 3) := by decide +kernel
theorem d_Mo_counted64_56 : decode b_Mo_counted64 56 = .ok (.iconst 0, 1) := by decide +kernel
theorem d_Mo_counted64_57 : decode b_Mo_counted64 57 = .ok (.istore 4, 2) := by decide +kernel
theorem d_Mo_counted64_59 : decode b_Mo_counted64 59 = .ok (.iload 4, 2) := by decide +kernel
theorem d_Mo_counted64_61 : decode b_Mo_counted64 61 = .ok (.bipush 64, 2) := by decide +kernel
theorem d_Mo_counted64_63 : decode b_Mo_counted64 63 = .ok (.if_icmp .ge 19, 3) := by decide +kernel
theorem d_Mo_counted64_66 : decode b_Mo_counted64 66 = .ok (.iload_n 3, 1) := by decide +kernel
theorem d_Mo_counted64_67 : decode b_Mo_counted64 67 = .ok (.lload_n 1, 1) := by decide +kernel
theorem d_Mo_counted64_68 : decode b_Mo_counted64 68 = .ok (.iload 4, 2) := by decide +kernel
theorem d_Mo_counted64_70 : decode b_Mo_counted64 70 = .ok (.lshr, 1) := by decide +kernel
theorem d_Mo_counted64_71 : decode b_Mo_counted64 71 = .ok (.lconst 1, 1) := by decide +kernel
theorem d_Mo_counted64_72 : decode b_Mo_counted64 72 = .ok (.land, 1) := by decide +kernel
theorem d_Mo_counted64_73 : decode b_Mo_counted64 73 = .ok (.l2i, 1) := by decide +kernel
theorem d_Mo_counted64_74 : decode b_Mo_counted64 74 = .ok (.iadd, 1) := by decide +kernel
theorem d_Mo_counted64_75 : decode b_Mo_counted64 75 = .ok (.istore_n 3, 1) := by decide +kernel
theorem d_Mo_counted64_76 : decode b_Mo_counted64 76 = .ok (.iinc 4 1, 3) := by decide +kernel
theorem d_Mo_counted64_79 : decode b_Mo_counted64 79 = .ok (.goto (-20), 3) := by decide +kernel
theorem d_Mo_counted64_82 : decode b_Mo_counted64 82 = .ok (.iload_n 0, 1) := by decide +kernel
theorem d_Mo_counted64_83 : decode b_Mo_counted64 83 = .ok (.bipush 103, 2) := by decide +kernel
theorem d_Mo_counted64_85 : decode b_Mo_counted64 85 = .ok (.if_icmp .ne 15, 3) := by decide +kernel
theorem d_Mo_counted64_88 : decode b_Mo_counted64 88 = .ok (.lload_n 1, 1) := by decide +kernel
theorem d_Mo_counted64_89 : decode b_Mo_counted64 89 = .ok (.lconst 0, 1) := by decide +kernel
theorem d_Mo_counted64_90 : decode b_Mo_counted64 90 = .ok (.lcmp, 1) := by decide +kernel
theorem d_Mo_counted64_91 : decode b_Mo_counted64 91 = .ok (.ifCond .ne 9, 3) := by decide +kernel
theorem d_Mo_counted64_94 : decode b_Mo_counted64 94 = .ok (.ldc2_w 370, 3) := by decide +kernel
theorem d_Mo_counted64_97 : decode b_Mo_counted64 97 = .ok (.goto 5, 3) := by decide +kernel
theorem d_Mo_counted64_100 : decode b_Mo_counted64 100 = .ok (.iload_n 3, 1) := by decide +kernel
theorem d_Mo_counted64_101 : decode b_Mo_counted64 101 = .ok (.i2l, 1) := by decide +kernel
theorem d_Mo_counted64_102 : decode b_Mo_counted64 102 = .ok (.lreturn, 1) := by decide +kernel
theorem d_Mo_compared_0 : decode b_Mo_compared 0 = .ok (.iload_n 0, 1) := by decide +kernel
theorem d_Mo_compared_1 : decode b_Mo_compared 1 = .ok (.bipush 73, 2) := by decide +kernel
theorem d_Mo_compared_3 : decode b_Mo_compared 3 = .ok (.if_icmp .eq 21, 3) := by decide +kernel
theorem d_Mo_compared_6 : decode b_Mo_compared 6 = .ok (.iload_n 0, 1) := by decide +kernel
theorem d_Mo_compared_7 : decode b_Mo_compared 7 = .ok (.bipush 75, 2) := by decide +kernel
theorem d_Mo_compared_9 : decode b_Mo_compared 9 = .ok (.if_icmp .eq 15, 3) := by decide +kernel
theorem d_Mo_compared_12 : decode b_Mo_compared 12 = .ok (.iload_n 0, 1) := by decide +kernel
theorem d_Mo_compared_13 : decode b_Mo_compared 13 = .ok (.bipush 77, 2) := by decide +kernel
theorem d_Mo_compared_15 : decode b_Mo_compared 15 = .ok (.if_icmp .eq 9, 3) := by decide +kernel
theorem d_Mo_compared_18 : decode b_Mo_compared 18 = .ok (.iload_n 0, 1) := by decide +kernel
theorem d_Mo_compared_19 : decode b_Mo_compared 19 = .ok (.bipush 79, 2) := by decide +kernel
theorem d_Mo_compared_21 : decode b_Mo_compared 21 = .ok (.if_icmp .ne 7, 3) := by decide +kernel
theorem d_Mo_compared_24 : decode b_Mo_compared 24 = .ok (.iconst 1, 1) := by decide +kernel
theorem d_Mo_compared_25 : decode b_Mo_compared 25 = .ok (.goto 4, 3) := by decide +kernel
theorem d_Mo_compared_28 : decode b_Mo_compared 28 = .ok (.iconst 0, 1) := by decide +kernel
theorem d_Mo_compared_29 : decode b_Mo_compared 29 = .ok (.istore 6, 2) := by decide +kernel
theorem d_Mo_compared_31 : decode b_Mo_compared 31 = .ok (.iload 6, 2) := by decide +kernel
theorem d_Mo_compared_33 : decode b_Mo_compared 33 = .ok (.ifCond .eq 11, 3) := by decide +kernel
theorem d_Mo_compared_36 : decode b_Mo_compared 36 = .ok (.lload_n 1, 1) := by decide +kernel
theorem d_Mo_compared_37 : decode b_Mo_compared 37 = .ok (.ldc2_w 374, 3) := by decide +kernel
theorem d_Mo_compared_40 : decode b_Mo_compared 40 = .ok (.ladd, 1) := by decide +kernel
theorem d_Mo_compared_41 : decode b_Mo_compared 41 = .ok (.goto 4, 3) := by decide +kernel
theorem d_Mo_compared_44 : decode b_Mo_compared 44 = .ok (.lload_n 1, 1) := by decide +kernel
theorem d_Mo_compared_45 : decode b_Mo_compared 45 = .ok (.lstore 7, 2) := by decide +kernel
theorem d_Mo_compared_47 : decode b_Mo_compared 47 = .ok (.iload 6, 2) := by decide +kernel
theorem d_Mo_compared_49 : decode b_Mo_compared 49 = .ok (.ifCond .eq 11, 3) := by decide +kernel
theorem d_Mo_compared_52 : decode b_Mo_compared 52 = .ok (.lload_n 3, 1) := by decide +kernel
theorem d_Mo_compared_53 : decode b_Mo_compared 53 = .ok (.ldc2_w 374, 3) := by decide +kernel
theorem d_Mo_compared_56 : decode b_Mo_compared 56 = .ok (.ladd, 1) := by decide +kernel
theorem d_Mo_compared_57 : decode b_Mo_compared 57 = .ok (.goto 4, 3) := by decide +kernel
theorem d_Mo_compared_60 : decode b_Mo_compared 60 = .ok (.lload_n 3, 1) := by decide +kernel
theorem d_Mo_compared_61 : decode b_Mo_compared 61 = .ok (.lstore 9, 2) := by decide +kernel
theorem d_Mo_compared_63 : decode b_Mo_compared 63 = .ok (.iload_n 0, 1) := by decide +kernel
theorem d_Mo_compared_64 : decode b_Mo_compared 64 = .ok (.bipush 70, 2) := by decide +kernel
theorem d_Mo_compared_66 : decode b_Mo_compared 66 = .ok (.if_icmp .ne 19, 3) := by decide +kernel
theorem d_Mo_compared_69 : decode b_Mo_compared 69 = .ok (.lload 7, 2) := by decide +kernel
theorem d_Mo_compared_71 : decode b_Mo_compared 71 = .ok (.lload 9, 2) := by decide +kernel
theorem d_Mo_compared_73 : decode b_Mo_compared 73 = .ok (.lcmp, 1) := by decide +kernel
theorem d_Mo_compared_74 : decode b_Mo_compared 74 = .ok (.ifCond .ne 7, 3) := by decide +kernel
theorem d_Mo_compared_77 : decode b_Mo_compared 77 = .ok (.iconst 1, 1) := by decide +kernel
theorem d_Mo_compared_78 : decode b_Mo_compared 78 = .ok (.goto 108, 3) := by decide +kernel
theorem d_Mo_compared_81 : decode b_Mo_compared 81 = .ok (.iconst 0, 1) := by decide +kernel
theorem d_Mo_compared_82 : decode b_Mo_compared 82 = .ok (.goto 104, 3) := by decide +kernel
theorem d_Mo_compared_85 : decode b_Mo_compared 85 = .ok (.iload_n 0, 1) := by decide +kernel
theorem d_Mo_compared_86 : decode b_Mo_compared 86 = .ok (.bipush 71, 2) := by decide +kernel
theorem d_Mo_compared_88 : decode b_Mo_compared 88 = .ok (.if_icmp .ne 19, 3) := by decide +kernel
theorem d_Mo_compared_91 : decode b_Mo_compared 91 = .ok (.lload 7, 2) := by decide +kernel
theorem d_Mo_compared_93 : decode b_Mo_compared 93 = .ok (.lload 9, 2) := by decide +kernel
theorem d_Mo_compared_95 : decode b_Mo_compared 95 = .ok (.lcmp, 1) := by decide +kernel
theorem d_Mo_compared_96 : decode b_Mo_compared 96 = .ok (.ifCond .eq 7, 3) := by decide +kernel
theorem d_Mo_compared_99 : decode b_Mo_compared 99 = .ok (.iconst 1, 1) := by decide +kernel
theorem d_Mo_compared_100 : decode b_Mo_compared 100 = .ok (.goto 86, 3) := by decide +kernel
theorem d_Mo_compared_103 : decode b_Mo_compared 103 = .ok (.iconst 0, 1) := by decide +kernel
theorem d_Mo_compared_104 : decode b_Mo_compared 104 = .ok (.goto 82, 3) := by decide +kernel
theorem d_Mo_compared_107 : decode b_Mo_compared 107 = .ok (.iload_n 0, 1) := by decide +kernel
theorem d_Mo_compared_108 : decode b_Mo_compared 108 = .ok (.bipush 73, 2) := by decide +kernel
theorem d_Mo_compared_110 : decode b_Mo_compared 110 = .ok (.if_icmp .gt 19, 3) := by decide +kernel
theorem d_Mo_compared_113 : decode b_Mo_compared 113 = .ok (.lload 7, 2) := by decide +kernel
theorem d_Mo_compared_115 : decode b_Mo_compared 115 = .ok (.lload 9, 2) := by decide +kernel
theorem d_Mo_compared_117 : decode b_Mo_compared 117 = .ok (.lcmp, 1) := by decide +kernel
theorem d_Mo_compared_118 : decode b_Mo_compared 118 = .ok (.ifCond .ge 7, 3) := by decide +kernel
theorem d_Mo_compared_121 : decode b_Mo_compared 121 = .ok (.iconst 1, 1) := by decide +kernel
theorem d_Mo_compared_122 : decode b_Mo_compared 122 = .ok (.goto 64, 3) := by decide +kernel
theorem d_Mo_compared_125 : decode b_Mo_compared 125 = .ok (.iconst 0, 1) := by decide +kernel
theorem d_Mo_compared_126 : decode b_Mo_compared 126 = .ok (.goto 60, 3) := by decide +kernel
theorem d_Mo_compared_129 : decode b_Mo_compared 129 = .ok (.iload_n 0, 1) := by decide +kernel
theorem d_Mo_compared_130 : decode b_Mo_compared 130 = .ok (.bipush 75, 2) := by decide +kernel
theorem d_Mo_compared_132 : decode b_Mo_compared 132 = .ok (.if_icmp .gt 19, 3) := by decide +kernel
theorem d_Mo_compared_135 : decode b_Mo_compared 135 = .ok (.lload 7, 2) := by decide +kernel
theorem d_Mo_compared_137 : decode b_Mo_compared 137 = .ok (.lload 9, 2) := by decide +kernel
theorem d_Mo_compared_139 : decode b_Mo_compared 139 = .ok (.lcmp, 1) := by decide +kernel
theorem d_Mo_compared_140 : decode b_Mo_compared 140 = .ok (.ifCond .le 7, 3) := by decide +kernel
theorem d_Mo_compared_143 : decode b_Mo_compared 143 = .ok (.iconst 1, 1) := by decide +kernel
theorem d_Mo_compared_144 : decode b_Mo_compared 144 = .ok (.goto 42, 3) := by decide +kernel
theorem d_Mo_compared_147 : decode b_Mo_compared 147 = .ok (.iconst 0, 1) := by decide +kernel
theorem d_Mo_compared_148 : decode b_Mo_compared 148 = .ok (.goto 38, 3) := by decide +kernel
theorem d_Mo_compared_151 : decode b_Mo_compared 151 = .ok (.iload_n 0, 1) := by decide +kernel
theorem d_Mo_compared_152 : decode b_Mo_compared 152 = .ok (.bipush 77, 2) := by decide +kernel
theorem d_Mo_compared_154 : decode b_Mo_compared 154 = .ok (.if_icmp .gt 19, 3) := by decide +kernel
theorem d_Mo_compared_157 : decode b_Mo_compared 157 = .ok (.lload 7, 2) := by decide +kernel
theorem d_Mo_compared_159 : decode b_Mo_compared 159 = .ok (.lload 9, 2) := by decide +kernel
theorem d_Mo_compared_161 : decode b_Mo_compared 161 = .ok (.lcmp, 1) := by decide +kernel
theorem d_Mo_compared_162 : decode b_Mo_compared 162 = .ok (.ifCond .gt 7, 3) := by decide +kernel
theorem d_Mo_compared_165 : decode b_Mo_compared 165 = .ok (.iconst 1, 1) := by decide +kernel
theorem d_Mo_compared_166 : decode b_Mo_compared 166 = .ok (.goto 20, 3) := by decide +kernel
theorem d_Mo_compared_169 : decode b_Mo_compared 169 = .ok (.iconst 0, 1) := by decide +kernel
theorem d_Mo_compared_170 : decode b_Mo_compared 170 = .ok (.goto 16, 3) := by decide +kernel
theorem d_Mo_compared_173 : decode b_Mo_compared 173 = .ok (.lload 7, 2) := by decide +kernel
theorem d_Mo_compared_175 : decode b_Mo_compared 175 = .ok (.lload 9, 2) := by decide +kernel
theorem d_Mo_compared_177 : decode b_Mo_compared 177 = .ok (.lcmp, 1) := by decide +kernel
theorem d_Mo_compared_178 : decode b_Mo_compared 178 = .ok (.ifCond .lt 7, 3) := by decide +kernel
theorem d_Mo_compared_181 : decode b_Mo_compared 181 = .ok (.iconst 1, 1) := by decide +kernel
theorem d_Mo_compared_182 : decode b_Mo_compared 182 = .ok (.goto 4, 3) := by decide +kernel
theorem d_Mo_compared_185 : decode b_Mo_compared 185 = .ok (.iconst 0, 1) := by decide +kernel
theorem d_Mo_compared_186 : decode b_Mo_compared 186 = .ok (.istore 11, 2) := by decide +kernel
theorem d_Mo_compared_188 : decode b_Mo_compared 188 = .ok (.iload 11, 2) := by decide +kernel
theorem d_Mo_compared_190 : decode b_Mo_compared 190 = .ok (.ifCond .eq 7, 3) := by decide +kernel
theorem d_Mo_compared_193 : decode b_Mo_compared 193 = .ok (.lconst 1, 1) := by decide +kernel
theorem d_Mo_compared_194 : decode b_Mo_compared 194 = .ok (.goto 4, 3) := by decide +kernel
theorem d_Mo_compared_197 : decode b_Mo_compared 197 = .ok (.lconst 0, 1) := by decide +kernel
theorem d_Mo_compared_198 : decode b_Mo_compared 198 = .ok (.lreturn, 1) := by decide +kernel
theorem d_Mo_over_0 : decode b_Mo_over 0 = .ok (.lload_n 2, 1) := by decide +kernel
theorem d_Mo_over_1 : decode b_Mo_over 1 = .ok (.lconst 0, 1) := by decide +kernel
theorem d_Mo_over_2 : decode b_Mo_over 2 = .ok (.lcmp, 1) := by decide +kernel
theorem d_Mo_over_3 : decode b_Mo_over 3 = .ok (.ifCond .ge 23, 3) := by decide +kernel
theorem d_Mo_over_6 : decode b_Mo_over 6 = .ok (.lload_n 0, 1) := by decide +kernel
theorem d_Mo_over_7 : decode b_Mo_over 7 = .ok (.ldc2_w 374, 3) := by decide +kernel
theorem d_Mo_over_10 : decode b_Mo_over 10 = .ok (.ladd, 1) := by decide +kernel
theorem d_Mo_over_11 : decode b_Mo_over 11 = .ok (.lload_n 2, 1) := by decide +kernel
theorem d_Mo_over_12 : decode b_Mo_over 12 = .ok (.ldc2_w 374, 3) := by decide +kernel
theorem d_Mo_over_15 : decode b_Mo_over 15 = .ok (.ladd, 1) := by decide +kernel
theorem d_Mo_over_16 : decode b_Mo_over 16 = .ok (.lcmp, 1) := by decide +kernel
theorem d_Mo_over_17 : decode b_Mo_over 17 = .ok (.ifCond .lt 7, 3) := by decide +kernel
theorem d_Mo_over_20 : decode b_Mo_over 20 = .ok (.lconst 1, 1) := by decide +kernel
theorem d_Mo_over_21 : decode b_Mo_over 21 = .ok (.goto 4, 3) := by decide +kernel
theorem d_Mo_over_24 : decode b_Mo_over 24 = .ok (.lconst 0, 1) := by decide +kernel
theorem d_Mo_over_25 : decode b_Mo_over 25 = .ok (.lreturn, 1) := by decide +kernel
theorem d_Mo_over_26 : decode b_Mo_over 26 = .ok (.lload_n 0, 1) := by decide +kernel
theorem d_Mo_over_27 : decode b_Mo_over 27 = .ok (.lconst 0, 1) := by decide +kernel
theorem d_Mo_over_28 : decode b_Mo_over 28 = .ok (.lcmp, 1) := by decide +kernel
theorem d_Mo_over_29 : decode b_Mo_over 29 = .ok (.ifCond .lt 7, 3) := by decide +kernel
theorem d_Mo_over_32 : decode b_Mo_over 32 = .ok (.lload_n 0, 1) := by decide +kernel
theorem d_Mo_over_33 : decode b_Mo_over 33 = .ok (.lload_n 2, 1) := by decide +kernel
theorem d_Mo_over_34 : decode b_Mo_over 34 = .ok (.ldiv, 1) := by decide +kernel
theorem d_Mo_over_35 : decode b_Mo_over 35 = .ok (.lreturn, 1) := by decide +kernel
theorem d_Mo_over_36 : decode b_Mo_over 36 = .ok (.lload_n 0, 1) := by decide +kernel
theorem d_Mo_over_37 : decode b_Mo_over 37 = .ok (.iconst 1, 1) := by decide +kernel
theorem d_Mo_over_38 : decode b_Mo_over 38 = .ok (.lushr, 1) := by decide +kernel
theorem d_Mo_over_39 : decode b_Mo_over 39 = .ok (.lload_n 2, 1) := by decide +kernel
theorem d_Mo_over_40 : decode b_Mo_over 40 = .ok (.ldiv, 1) := by decide +kernel
theorem d_Mo_over_41 : decode b_Mo_over 41 = .ok (.iconst 1, 1) := by decide +kernel
theorem d_Mo_over_42 : decode b_Mo_over 42 = .ok (.lshl, 1) := by decide +kernel
theorem d_Mo_over_43 : decode b_Mo_over 43 = .ok (.lstore 4, 2) := by decide +kernel
theorem d_Mo_over_45 : decode b_Mo_over 45 = .ok (.lload_n 0, 1) := by decide +kernel
theorem d_Mo_over_46 : decode b_Mo_over 46 = .ok (.lload 4, 2) := by decide +kernel
theorem d_Mo_over_48 : decode b_Mo_over 48 = .ok (.lload_n 2, 1) := by decide +kernel
theorem d_Mo_over_49 : decode b_Mo_over 49 = .ok (.lmul, 1) := by decide +kernel
theorem d_Mo_over_50 : decode b_Mo_over 50 = .ok (.lsub, 1) := by decide +kernel
theorem d_Mo_over_51 : decode b_Mo_over 51 = .ok (.lstore 6, 2) := by decide +kernel
theorem d_Mo_over_53 : decode b_Mo_over 53 = .ok (.lload 4, 2) := by decide +kernel
theorem d_Mo_over_55 : decode b_Mo_over 55 = .ok (.lload 6, 2) := by decide +kernel
theorem d_Mo_over_57 : decode b_Mo_over 57 = .ok (.ldc2_w 374, 3) := by decide +kernel
theorem d_Mo_over_60 : decode b_Mo_over 60 = .ok (.ladd, 1) := by decide +kernel
theorem d_Mo_over_61 : decode b_Mo_over 61 = .ok (.lload_n 2, 1) := by decide +kernel
theorem d_Mo_over_62 : decode b_Mo_over 62 = .ok (.ldc2_w 374, 3) := by decide +kernel
theorem d_Mo_over_65 : decode b_Mo_over 65 = .ok (.ladd, 1) := by decide +kernel
theorem d_Mo_over_66 : decode b_Mo_over 66 = .ok (.lcmp, 1) := by decide +kernel
theorem d_Mo_over_67 : decode b_Mo_over 67 = .ok (.ifCond .lt 7, 3) := by decide +kernel
theorem d_Mo_over_70 : decode b_Mo_over 70 = .ok (.lconst 1, 1) := by decide +kernel
theorem d_Mo_over_71 : decode b_Mo_over 71 = .ok (.goto 4, 3) := by decide +kernel
theorem d_Mo_over_74 : decode b_Mo_over 74 = .ok (.lconst 0, 1) := by decide +kernel
theorem d_Mo_over_75 : decode b_Mo_over 75 = .ok (.ladd, 1) := by decide +kernel
theorem d_Mo_over_76 : decode b_Mo_over 76 = .ok (.lreturn, 1) := by decide +kernel
theorem d_Mo_worked_0 : decode b_Mo_worked 0 = .ok (.iload 6, 2) := by decide +kernel
theorem d_Mo_worked_2 : decode b_Mo_worked 2 = .ok (.ifCond .eq 8, 3) := by decide +kernel
theorem d_Mo_worked_5 : decode b_Mo_worked 5 = .ok (.bipush 32, 2) := by decide +kernel
theorem d_Mo_worked_7 : decode b_Mo_worked 7 = .ok (.goto 5, 3) := by decide +kernel
theorem d_Mo_worked_10 : decode b_Mo_worked 10 = .ok (.bipush 64, 2) := by decide +kernel
theorem d_Mo_worked_12 : decode b_Mo_worked 12 = .ok (.istore 7, 2) := by decide +kernel
theorem d_Mo_worked_14 : decode b_Mo_worked 14 = .ok (.lload 4, 2) := by decide +kernel
theorem d_Mo_worked_16 : decode b_Mo_worked 16 = .ok (.l2i, 1) := by decide +kernel
theorem d_Mo_worked_17 : decode b_Mo_worked 17 = .ok (.iload 7, 2) := by decide +kernel
theorem d_Mo_worked_19 : decode b_Mo_worked 19 = .ok (.iconst 1, 1) := by decide +kernel
theorem d_Mo_worked_20 : decode b_Mo_worked 20 = .ok (.isub, 1) := by decide +kernel
theorem d_Mo_worked_21 : decode b_Mo_worked 21 = .ok (.iand, 1) := by decide +kernel
theorem d_Mo_worked_22 : decode b_Mo_worked 22 = .ok (.istore 8, 2) := by decide +kernel
theorem d_Mo_worked_24 : decode b_Mo_worked 24 = .ok (.iload 6, 2) := by decide +kernel
theorem d_Mo_worked_26 : decode b_Mo_worked 26 = .ok (.ifCond .eq 11, 3) := by decide +kernel
theorem d_Mo_worked_29 : decode b_Mo_worked 29 = .ok (.lload_n 2, 1) := by decide +kernel
theorem d_Mo_worked_30 : decode b_Mo_worked 30 = .ok (.ldc2_w 341, 3) := by decide +kernel
theorem d_Mo_worked_33 : decode b_Mo_worked 33 = .ok (.land, 1) := by decide +kernel
theorem d_Mo_worked_34 : decode b_Mo_worked 34 = .ok (.goto 4, 3) := by decide +kernel
theorem d_Mo_worked_37 : decode b_Mo_worked 37 = .ok (.lload_n 2, 1) := by decide +kernel
theorem d_Mo_worked_38 : decode b_Mo_worked 38 = .ok (.lstore 9, 2) := by decide +kernel
theorem d_Mo_worked_40 : decode b_Mo_worked 40 = .ok (.iload 6, 2) := by decide +kernel
theorem d_Mo_worked_42 : decode b_Mo_worked 42 = .ok (.ifCond .eq 12, 3) := by decide +kernel
theorem d_Mo_worked_45 : decode b_Mo_worked 45 = .ok (.lload 4, 2) := by decide +kernel
theorem d_Mo_worked_47 : decode b_Mo_worked 47 = .ok (.ldc2_w 341, 3) := by decide +kernel
theorem d_Mo_worked_50 : decode b_Mo_worked 50 = .ok (.land, 1) := by decide +kernel
theorem d_Mo_worked_51 : decode b_Mo_worked 51 = .ok (.goto 5, 3) := by decide +kernel
theorem d_Mo_worked_54 : decode b_Mo_worked 54 = .ok (.lload 4, 2) := by decide +kernel
theorem d_Mo_worked_56 : decode b_Mo_worked 56 = .ok (.lstore 11, 2) := by decide +kernel
theorem d_Mo_worked_58 : decode b_Mo_worked 58 = .ok (.iload_n 1, 1) := by decide +kernel
theorem d_Mo_worked_59 : decode b_Mo_worked 59 = .ok (.tableswitch 281 106 119 #[69, 74, 79, 84, 144, 191, 144, 226, 231, 236, 241, 246, 251, 257], 69) := by decide +kernel
theorem d_Mo_worked_128 : decode b_Mo_worked 128 = .ok (.lload_n 2, 1) := by decide +kernel
theorem d_Mo_worked_129 : decode b_Mo_worked 129 = .ok (.lload 4, 2) := by decide +kernel
theorem d_Mo_worked_131 : decode b_Mo_worked 131 = .ok (.ladd, 1) := by decide +kernel
theorem d_Mo_worked_132 : decode b_Mo_worked 132 = .ok (.lreturn, 1) := by decide +kernel
theorem d_Mo_worked_133 : decode b_Mo_worked 133 = .ok (.lload_n 2, 1) := by decide +kernel
theorem d_Mo_worked_134 : decode b_Mo_worked 134 = .ok (.lload 4, 2) := by decide +kernel
theorem d_Mo_worked_136 : decode b_Mo_worked 136 = .ok (.lsub, 1) := by decide +kernel
theorem d_Mo_worked_137 : decode b_Mo_worked 137 = .ok (.lreturn, 1) := by decide +kernel
theorem d_Mo_worked_138 : decode b_Mo_worked 138 = .ok (.lload_n 2, 1) := by decide +kernel
theorem d_Mo_worked_139 : decode b_Mo_worked 139 = .ok (.lload 4, 2) := by decide +kernel
theorem d_Mo_worked_141 : decode b_Mo_worked 141 = .ok (.lmul, 1) := by decide +kernel
theorem d_Mo_worked_142 : decode b_Mo_worked 142 = .ok (.lreturn, 1) := by decide +kernel
theorem d_Mo_worked_143 : decode b_Mo_worked 143 = .ok (.aload_n 0, 1) := by decide +kernel
theorem d_Mo_worked_144 : decode b_Mo_worked 144 = .ok (.lload 4, 2) := by decide +kernel
theorem d_Mo_worked_146 : decode b_Mo_worked 146 = .ok (.lconst 0, 1) := by decide +kernel
theorem d_Mo_worked_147 : decode b_Mo_worked 147 = .ok (.lcmp, 1) := by decide +kernel
theorem d_Mo_worked_148 : decode b_Mo_worked 148 = .ok (.ifCond .ne 7, 3) := by decide +kernel
theorem d_Mo_worked_151 : decode b_Mo_worked 151 = .ok (.iconst 1, 1) := by decide +kernel
theorem d_Mo_worked_152 : decode b_Mo_worked 152 = .ok (.goto 4, 3) := by decide +kernel
theorem d_Mo_worked_155 : decode b_Mo_worked 155 = .ok (.iconst 0, 1) := by decide +kernel
theorem d_Mo_worked_156 : decode b_Mo_worked 156 = .ok (.iconst 4, 1) := by decide +kernel
theorem d_Mo_worked_157 : decode b_Mo_worked 157 = .ok (.invokevirtual 266, 3) := by decide +kernel
theorem d_Mo_worked_160 : decode b_Mo_worked 160 = .ok (.aload_n 0, 1) := by decide +kernel
theorem d_Mo_worked_161 : decode b_Mo_worked 161 = .ok (.lload 4, 2) := by decide +kernel
theorem d_Mo_worked_163 : decode b_Mo_worked 163 = .ok (.ldc2_w 346, 3) := by decide +kernel
theorem d_Mo_worked_166 : decode b_Mo_worked 166 = .ok (.lcmp, 1) := by decide +kernel
theorem d_Mo_worked_167 : decode b_Mo_worked 167 = .ok (.ifCond .ne 26, 3) := by decide +kernel
theorem d_Mo_worked_170 : decode b_Mo_worked 170 = .ok (.lload_n 2, 1) := by decide +kernel
theorem d_Mo_worked_171 : decode b_Mo_worked 171 = .ok (.iload 6, 2) := by decide +kernel
theorem d_Mo_worked_173 : decode b_Mo_worked 173 = .ok (.ifCond .eq 9, 3) := by decide +kernel
theorem d_Mo_worked_176 : decode b_Mo_worked 176 = .ok (.ldc2_w 378, 3) := by decide +kernel
theorem d_Mo_worked_179 : decode b_Mo_worked 179 = .ok (.goto 6, 3) := by decide +kernel
theorem d_Mo_worked_182 : decode b_Mo_worked 182 = .ok (.ldc2_w 374, 3) := by decide +kernel
theorem d_Mo_worked_185 : decode b_Mo_worked 185 = .ok (.lcmp, 1) := by decide +kernel
theorem d_Mo_worked_186 : decode b_Mo_worked 186 = .ok (.ifCond .ne 7, 3) := by decide +kernel
theorem d_Mo_worked_189 : decode b_Mo_worked 189 = .ok (.iconst 1, 1) := by decide +kernel
theorem d_Mo_worked_190 : decode b_Mo_worked 190 = .ok (.goto 4, 3) := by decide +kernel
theorem d_Mo_worked_193 : decode b_Mo_worked 193 = .ok (.iconst 0, 1) := by decide +kernel
theorem d_Mo_worked_194 : decode b_Mo_worked 194 = .ok (.iconst 5, 1) := by decide +kernel
theorem d_Mo_worked_195 : decode b_Mo_worked 195 = .ok (.invokevirtual 266, 3) := by decide +kernel
theorem d_Mo_worked_198 : decode b_Mo_worked 198 = .ok (.lload_n 2, 1) := by decide +kernel
theorem d_Mo_worked_199 : decode b_Mo_worked 199 = .ok (.lload 4, 2) := by decide +kernel
theorem d_Mo_worked_201 : decode b_Mo_worked 201 = .ok (.ldiv, 1) := by decide +kernel
theorem d_Mo_worked_202 : decode b_Mo_worked 202 = .ok (.lreturn, 1) := by decide +kernel
theorem d_Mo_worked_203 : decode b_Mo_worked 203 = .ok (.aload_n 0, 1) := by decide +kernel
theorem d_Mo_worked_204 : decode b_Mo_worked 204 = .ok (.lload 4, 2) := by decide +kernel
theorem d_Mo_worked_206 : decode b_Mo_worked 206 = .ok (.lconst 0, 1) := by decide +kernel
theorem d_Mo_worked_207 : decode b_Mo_worked 207 = .ok (.lcmp, 1) := by decide +kernel
theorem d_Mo_worked_208 : decode b_Mo_worked 208 = .ok (.ifCond .ne 7, 3) := by decide +kernel
theorem d_Mo_worked_211 : decode b_Mo_worked 211 = .ok (.iconst 1, 1) := by decide +kernel
theorem d_Mo_worked_212 : decode b_Mo_worked 212 = .ok (.goto 4, 3) := by decide +kernel
theorem d_Mo_worked_215 : decode b_Mo_worked 215 = .ok (.iconst 0, 1) := by decide +kernel
theorem d_Mo_worked_216 : decode b_Mo_worked 216 = .ok (.iconst 4, 1) := by decide +kernel
theorem d_Mo_worked_217 : decode b_Mo_worked 217 = .ok (.invokevirtual 266, 3) := by decide +kernel
theorem d_Mo_worked_220 : decode b_Mo_worked 220 = .ok (.iload_n 1, 1) := by decide +kernel
theorem d_Mo_worked_221 : decode b_Mo_worked 221 = .ok (.bipush 110, 2) := by decide +kernel
theorem d_Mo_worked_223 : decode b_Mo_worked 223 = .ok (.if_icmp .ne 13, 3) := by decide +kernel
theorem d_Mo_worked_226 : decode b_Mo_worked 226 = .ok (.lload 9, 2) := by decide +kernel
theorem d_Mo_worked_228 : decode b_Mo_worked 228 = .ok (.lload 11, 2) := by decide +kernel
theorem d_Mo_worked_230 : decode b_Mo_worked 230 = .ok (.invokestatic 380, 3) := by decide +kernel
theorem d_Mo_worked_233 : decode b_Mo_worked 233 = .ok (.goto 16, 3) := by decide +kernel
theorem d_Mo_worked_236 : decode b_Mo_worked 236 = .ok (.lload 9, 2) := by decide +kernel
theorem d_Mo_worked_238 : decode b_Mo_worked 238 = .ok (.lload 9, 2) := by decide +kernel
theorem d_Mo_worked_240 : decode b_Mo_worked 240 = .ok (.lload 11, 2) := by decide +kernel
theorem d_Mo_worked_242 : decode b_Mo_worked 242 = .ok (.invokestatic 380, 3) := by decide +kernel
theorem d_Mo_worked_245 : decode b_Mo_worked 245 = .ok (.lload 11, 2) := by decide +kernel
theorem d_Mo_worked_247 : decode b_Mo_worked 247 = .ok (.lmul, 1) := by decide +kernel
theorem d_Mo_worked_248 : decode b_Mo_worked 248 = .ok (.lsub, 1) := by decide +kernel
theorem d_Mo_worked_249 : decode b_Mo_worked 249 = .ok (.lreturn, 1) := by decide +kernel
theorem d_Mo_worked_250 : decode b_Mo_worked 250 = .ok (.aload_n 0, 1) := by decide +kernel
theorem d_Mo_worked_251 : decode b_Mo_worked 251 = .ok (.lload 4, 2) := by decide +kernel
theorem d_Mo_worked_253 : decode b_Mo_worked 253 = .ok (.lconst 0, 1) := by decide +kernel
theorem d_Mo_worked_254 : decode b_Mo_worked 254 = .ok (.lcmp, 1) := by decide +kernel
theorem d_Mo_worked_255 : decode b_Mo_worked 255 = .ok (.ifCond .ne 7, 3) := by decide +kernel
theorem d_Mo_worked_258 : decode b_Mo_worked 258 = .ok (.iconst 1, 1) := by decide +kernel
theorem d_Mo_worked_259 : decode b_Mo_worked 259 = .ok (.goto 4, 3) := by decide +kernel
theorem d_Mo_worked_262 : decode b_Mo_worked 262 = .ok (.iconst 0, 1) := by decide +kernel
theorem d_Mo_worked_263 : decode b_Mo_worked 263 = .ok (.iconst 4, 1) := by decide +kernel
theorem d_Mo_worked_264 : decode b_Mo_worked 264 = .ok (.invokevirtual 266, 3) := by decide +kernel
theorem d_Mo_worked_267 : decode b_Mo_worked 267 = .ok (.lload 4, 2) := by decide +kernel
theorem d_Mo_worked_269 : decode b_Mo_worked 269 = .ok (.ldc2_w 346, 3) := by decide +kernel
theorem d_Mo_worked_272 : decode b_Mo_worked 272 = .ok (.lcmp, 1) := by decide +kernel
theorem d_Mo_worked_273 : decode b_Mo_worked 273 = .ok (.ifCond .ne 7, 3) := by decide +kernel
theorem d_Mo_worked_276 : decode b_Mo_worked 276 = .ok (.lconst 0, 1) := by decide +kernel
theorem d_Mo_worked_277 : decode b_Mo_worked 277 = .ok (.goto 7, 3) := by decide +kernel
theorem d_Mo_worked_280 : decode b_Mo_worked 280 = .ok (.lload_n 2, 1) := by decide +kernel
theorem d_Mo_worked_281 : decode b_Mo_worked 281 = .ok (.lload 4, 2) := by decide +kernel
theorem d_Mo_worked_283 : decode b_Mo_worked 283 = .ok (.lrem, 1) := by decide +kernel
theorem d_Mo_worked_284 : decode b_Mo_worked 284 = .ok (.lreturn, 1) := by decide +kernel
theorem d_Mo_worked_285 : decode b_Mo_worked 285 = .ok (.lload_n 2, 1) := by decide +kernel
theorem d_Mo_worked_286 : decode b_Mo_worked 286 = .ok (.lload 4, 2) := by decide +kernel
theorem d_Mo_worked_288 : decode b_Mo_worked 288 = .ok (.land, 1) := by decide +kernel
theorem d_Mo_worked_289 : decode b_Mo_worked 289 = .ok (.lreturn, 1) := by decide +kernel
theorem d_Mo_worked_290 : decode b_Mo_worked 290 = .ok (.lload_n 2, 1) := by decide +kernel
theorem d_Mo_worked_291 : decode b_Mo_worked 291 = .ok (.lload 4, 2) := by decide +kernel
theorem d_Mo_worked_293 : decode b_Mo_worked 293 = .ok (.lor, 1) := by decide +kernel
theorem d_Mo_worked_294 : decode b_Mo_worked 294 = .ok (.lreturn, 1) := by decide +kernel
theorem d_Mo_worked_295 : decode b_Mo_worked 295 = .ok (.lload_n 2, 1) := by decide +kernel
theorem d_Mo_worked_296 : decode b_Mo_worked 296 = .ok (.lload 4, 2) := by decide +kernel
theorem d_Mo_worked_298 : decode b_Mo_worked 298 = .ok (.lxor, 1) := by decide +kernel
theorem d_Mo_worked_299 : decode b_Mo_worked 299 = .ok (.lreturn, 1) := by decide +kernel
theorem d_Mo_worked_300 : decode b_Mo_worked 300 = .ok (.lload_n 2, 1) := by decide +kernel
theorem d_Mo_worked_301 : decode b_Mo_worked 301 = .ok (.iload 8, 2) := by decide +kernel
theorem d_Mo_worked_303 : decode b_Mo_worked 303 = .ok (.lshl, 1) := by decide +kernel
theorem d_Mo_worked_304 : decode b_Mo_worked 304 = .ok (.lreturn, 1) := by decide +kernel
theorem d_Mo_worked_305 : decode b_Mo_worked 305 = .ok (.lload_n 2, 1) := by decide +kernel
theorem d_Mo_worked_306 : decode b_Mo_worked 306 = .ok (.iload 8, 2) := by decide +kernel
theorem d_Mo_worked_308 : decode b_Mo_worked 308 = .ok (.lshr, 1) := by decide +kernel
theorem d_Mo_worked_309 : decode b_Mo_worked 309 = .ok (.lreturn, 1) := by decide +kernel
theorem d_Mo_worked_310 : decode b_Mo_worked 310 = .ok (.lload 9, 2) := by decide +kernel
theorem d_Mo_worked_312 : decode b_Mo_worked 312 = .ok (.iload 8, 2) := by decide +kernel
theorem d_Mo_worked_314 : decode b_Mo_worked 314 = .ok (.lushr, 1) := by decide +kernel
theorem d_Mo_worked_315 : decode b_Mo_worked 315 = .ok (.lreturn, 1) := by decide +kernel
theorem d_Mo_worked_316 : decode b_Mo_worked 316 = .ok (.iload 8, 2) := by decide +kernel
theorem d_Mo_worked_318 : decode b_Mo_worked 318 = .ok (.ifCond .ne 7, 3) := by decide +kernel
theorem d_Mo_worked_321 : decode b_Mo_worked 321 = .ok (.lload_n 2, 1) := by decide +kernel
theorem d_Mo_worked_322 : decode b_Mo_worked 322 = .ok (.goto 17, 3) := by decide +kernel
theorem d_Mo_worked_325 : decode b_Mo_worked 325 = .ok (.lload 9, 2) := by decide +kernel
theorem d_Mo_worked_327 : decode b_Mo_worked 327 = .ok (.iload 8, 2) := by decide +kernel
theorem d_Mo_worked_329 : decode b_Mo_worked 329 = .ok (.lshl, 1) := by decide +kernel
theorem d_Mo_worked_330 : decode b_Mo_worked 330 = .ok (.lload 9, 2) := by decide +kernel
theorem d_Mo_worked_332 : decode b_Mo_worked 332 = .ok (.iload 7, 2) := by decide +kernel
theorem d_Mo_worked_334 : decode b_Mo_worked 334 = .ok (.iload 8, 2) := by decide +kernel
theorem d_Mo_worked_336 : decode b_Mo_worked 336 = .ok (.isub, 1) := by decide +kernel
theorem d_Mo_worked_337 : decode b_Mo_worked 337 = .ok (.lushr, 1) := by decide +kernel
theorem d_Mo_worked_338 : decode b_Mo_worked 338 = .ok (.lor, 1) := by decide +kernel
theorem d_Mo_worked_339 : decode b_Mo_worked 339 = .ok (.lreturn, 1) := by decide +kernel
theorem d_Mo_worked_340 : decode b_Mo_worked 340 = .ok (.iload 8, 2) := by decide +kernel
theorem d_Mo_worked_342 : decode b_Mo_worked 342 = .ok (.ifCond .ne 7, 3) := by decide +kernel
theorem d_Mo_worked_345 : decode b_Mo_worked 345 = .ok (.lload_n 2, 1) := by decide +kernel
theorem d_Mo_worked_346 : decode b_Mo_worked 346 = .ok (.goto 17, 3) := by decide +kernel
theorem d_Mo_worked_349 : decode b_Mo_worked 349 = .ok (.lload 9, 2) := by decide +kernel
theorem d_Mo_worked_351 : decode b_Mo_worked 351 = .ok (.iload 8, 2) := by decide +kernel
theorem d_Mo_worked_353 : decode b_Mo_worked 353 = .ok (.lushr, 1) := by decide +kernel
theorem d_Mo_worked_354 : decode b_Mo_worked 354 = .ok (.lload 9, 2) := by decide +kernel
theorem d_Mo_worked_356 : decode b_Mo_worked 356 = .ok (.iload 7, 2) := by decide +kernel
theorem d_Mo_worked_358 : decode b_Mo_worked 358 = .ok (.iload 8, 2) := by decide +kernel
theorem d_Mo_worked_360 : decode b_Mo_worked 360 = .ok (.isub, 1) := by decide +kernel
theorem d_Mo_worked_361 : decode b_Mo_worked 361 = .ok (.lshl, 1) := by decide +kernel
theorem d_Mo_worked_362 : decode b_Mo_worked 362 = .ok (.lor, 1) := by decide +kernel
theorem d_Mo_worked_363 : decode b_Mo_worked 363 = .ok (.lreturn, 1) := by decide +kernel
theorem d_Mo_numbers_0 : decode b_Mo_numbers 0 = .ok (.iload_n 1, 1) := by decide +kernel
theorem d_Mo_numbers_1 : decode b_Mo_numbers 1 = .ok (.sipush 167, 3) := by decide +kernel
theorem d_Mo_numbers_4 : decode b_Mo_numbers 4 = .ok (.if_icmp .ne 14, 3) := by decide +kernel
theorem d_Mo_numbers_7 : decode b_Mo_numbers 7 = .ok (.aload_n 0, 1) := by decide +kernel
theorem d_Mo_numbers_8 : decode b_Mo_numbers 8 = .ok (.aload_n 0, 1) := by decide +kernel
theorem d_Mo_numbers_9 : decode b_Mo_numbers 9 = .ok (.invokevirtual 301, 3) := by decide +kernel
theorem d_Mo_numbers_12 : decode b_Mo_numbers 12 = .ok (.l2i, 1) := by decide +kernel
theorem d_Mo_numbers_13 : decode b_Mo_numbers 13 = .ok (.i2l, 1) := by decide +kernel
theorem d_Mo_numbers_14 : decode b_Mo_numbers 14 = .ok (.invokevirtual 285, 3) := by decide +kernel
theorem d_Mo_numbers_17 : decode b_Mo_numbers 17 = .ok (.return_, 1) := by decide +kernel
theorem d_Mo_numbers_18 : decode b_Mo_numbers 18 = .ok (.iload_n 1, 1) := by decide +kernel
theorem d_Mo_numbers_19 : decode b_Mo_numbers 19 = .ok (.sipush 172, 3) := by decide +kernel
theorem d_Mo_numbers_22 : decode b_Mo_numbers 22 = .ok (.if_icmp .lt 29, 3) := by decide +kernel
theorem d_Mo_numbers_25 : decode b_Mo_numbers 25 = .ok (.aload_n 0, 1) := by decide +kernel
theorem d_Mo_numbers_26 : decode b_Mo_numbers 26 = .ok (.invokevirtual 301, 3) := by decide +kernel
theorem d_Mo_numbers_29 : decode b_Mo_numbers 29 = .ok (.lstore_n 2, 1) := by decide +kernel
theorem d_Mo_numbers_30 : decode b_Mo_numbers 30 = .ok (.aload_n 0, 1) := by decide +kernel
theorem d_Mo_numbers_31 : decode b_Mo_numbers 31 = .ok (.iload_n 1, 1) := by decide +kernel
theorem d_Mo_numbers_32 : decode b_Mo_numbers 32 = .ok (.sipush 172, 3) := by decide +kernel
theorem d_Mo_numbers_35 : decode b_Mo_numbers 35 = .ok (.if_icmp .ne 7, 3) := by decide +kernel
theorem d_Mo_numbers_38 : decode b_Mo_numbers 38 = .ok (.lload_n 2, 1) := by decide +kernel
theorem d_Mo_numbers_39 : decode b_Mo_numbers 39 = .ok (.goto 8, 3) := by decide +kernel
theorem d_Mo_numbers_42 : decode b_Mo_numbers 42 = .ok (.lload_n 2, 1) := by decide +kernel
theorem d_Mo_numbers_43 : decode b_Mo_numbers 43 = .ok (.ldc2_w 341, 3) := by decide +kernel
theorem d_Mo_numbers_46 : decode b_Mo_numbers 46 = .ok (.land, 1) := by decide +kernel
theorem d_Mo_numbers_47 : decode b_Mo_numbers 47 = .ok (.invokevirtual 285, 3) := by decide +kernel
theorem d_Mo_numbers_50 : decode b_Mo_numbers 50 = .ok (.return_, 1) := by decide +kernel
theorem d_Mo_numbers_51 : decode b_Mo_numbers 51 = .ok (.iload_n 1, 1) := by decide +kernel
theorem d_Mo_numbers_52 : decode b_Mo_numbers 52 = .ok (.bipush 79, 2) := by decide +kernel
theorem d_Mo_numbers_54 : decode b_Mo_numbers 54 = .ok (.if_icmp .le 15, 3) := by decide +kernel
theorem d_Mo_numbers_57 : decode b_Mo_numbers 57 = .ok (.iload_n 1, 1) := by decide +kernel
theorem d_Mo_numbers_58 : decode b_Mo_numbers 58 = .ok (.bipush 103, 2) := by decide +kernel
theorem d_Mo_numbers_60 : decode b_Mo_numbers 60 = .ok (.if_icmp .lt 13, 3) := by decide +kernel
theorem d_Mo_numbers_63 : decode b_Mo_numbers 63 = .ok (.iload_n 1, 1) := by decide +kernel
theorem d_Mo_numbers_64 : decode b_Mo_numbers 64 = .ok (.bipush 120, 2) := by decide +kernel
theorem d_Mo_numbers_66 : decode b_Mo_numbers 66 = .ok (.if_icmp .gt 7, 3) := by decide +kernel
theorem d_Mo_numbers_69 : decode b_Mo_numbers 69 = .ok (.iconst 1, 1) := by decide +kernel
theorem d_Mo_numbers_70 : decode b_Mo_numbers 70 = .ok (.goto 4, 3) := by decide +kernel
theorem d_Mo_numbers_73 : decode b_Mo_numbers 73 = .ok (.iconst 0, 1) := by decide +kernel
theorem d_Mo_numbers_74 : decode b_Mo_numbers 74 = .ok (.istore_n 2, 1) := by decide +kernel
theorem d_Mo_numbers_75 : decode b_Mo_numbers 75 = .ok (.iload_n 2, 1) := by decide +kernel
theorem d_Mo_numbers_76 : decode b_Mo_numbers 76 = .ok (.ifCond .eq 7, 3) := by decide +kernel
theorem d_Mo_numbers_79 : decode b_Mo_numbers 79 = .ok (.iload_n 1, 1) := by decide +kernel
theorem d_Mo_numbers_80 : decode b_Mo_numbers 80 = .ok (.goto 20, 3) := by decide +kernel
theorem d_Mo_numbers_83 : decode b_Mo_numbers 83 = .ok (.iload_n 1, 1) := by decide +kernel
theorem d_Mo_numbers_84 : decode b_Mo_numbers 84 = .ok (.bipush 90, 2) := by decide +kernel
theorem d_Mo_numbers_86 : decode b_Mo_numbers 86 = .ok (.if_icmp .gt 10, 3) := by decide +kernel
theorem d_Mo_numbers_89 : decode b_Mo_numbers 89 = .ok (.iload_n 1, 1) := by decide +kernel
theorem d_Mo_numbers_90 : decode b_Mo_numbers 90 = .ok (.bipush 11, 2) := by decide +kernel
theorem d_Mo_numbers_92 : decode b_Mo_numbers 92 = .ok (.isub, 1) := by decide +kernel
theorem d_Mo_numbers_93 : decode b_Mo_numbers 93 = .ok (.goto 7, 3) := by decide +kernel
theorem d_Mo_numbers_96 : decode b_Mo_numbers 96 = .ok (.iload_n 1, 1) := by decide +kernel
theorem d_Mo_numbers_97 : decode b_Mo_numbers 97 = .ok (.bipush 18, 2) := by decide +kernel
theorem d_Mo_numbers_99 : decode b_Mo_numbers 99 = .ok (.isub, 1) := by decide +kernel
theorem d_Mo_numbers_100 : decode b_Mo_numbers 100 = .ok (.istore_n 3, 1) := by decide +kernel
theorem d_Mo_numbers_101 : decode b_Mo_numbers 101 = .ok (.aload_n 0, 1) := by decide +kernel
theorem d_Mo_numbers_102 : decode b_Mo_numbers 102 = .ok (.invokevirtual 301, 3) := by decide +kernel
theorem d_Mo_numbers_105 : decode b_Mo_numbers 105 = .ok (.lstore 4, 2) := by decide +kernel
theorem d_Mo_numbers_107 : decode b_Mo_numbers 107 = .ok (.iload_n 3, 1) := by decide +kernel
theorem d_Mo_numbers_108 : decode b_Mo_numbers 108 = .ok (.bipush 69, 2) := by decide +kernel
theorem d_Mo_numbers_110 : decode b_Mo_numbers 110 = .ok (.if_icmp .ne 22, 3) := by decide +kernel
theorem d_Mo_numbers_113 : decode b_Mo_numbers 113 = .ok (.aload_n 0, 1) := by decide +kernel
theorem d_Mo_numbers_114 : decode b_Mo_numbers 114 = .ok (.lload 4, 2) := by decide +kernel
theorem d_Mo_numbers_116 : decode b_Mo_numbers 116 = .ok (.lconst 0, 1) := by decide +kernel
theorem d_Mo_numbers_117 : decode b_Mo_numbers 117 = .ok (.lcmp, 1) := by decide +kernel
theorem d_Mo_numbers_118 : decode b_Mo_numbers 118 = .ok (.ifCond .ne 7, 3) := by decide +kernel
theorem d_Mo_numbers_121 : decode b_Mo_numbers 121 = .ok (.lconst 1, 1) := by decide +kernel
theorem d_Mo_numbers_122 : decode b_Mo_numbers 122 = .ok (.goto 4, 3) := by decide +kernel
theorem d_Mo_numbers_125 : decode b_Mo_numbers 125 = .ok (.lconst 0, 1) := by decide +kernel
theorem d_Mo_numbers_126 : decode b_Mo_numbers 126 = .ok (.invokevirtual 285, 3) := by decide +kernel
theorem d_Mo_numbers_129 : decode b_Mo_numbers 129 = .ok (.goto 99, 3) := by decide +kernel
theorem d_Mo_numbers_132 : decode b_Mo_numbers 132 = .ok (.iload_n 3, 1) := by decide +kernel
theorem d_Mo_numbers_133 : decode b_Mo_numbers 133 = .ok (.bipush 103, 2) := by decide +kernel
theorem d_Mo_numbers_135 : decode b_Mo_numbers 135 = .ok (.if_icmp .lt 36, 3) := by decide +kernel
theorem d_Mo_numbers_138 : decode b_Mo_numbers 138 = .ok (.iload_n 3, 1) := by decide +kernel
theorem d_Mo_numbers_139 : decode b_Mo_numbers 139 = .ok (.bipush 105, 2) := by decide +kernel
theorem d_Mo_numbers_141 : decode b_Mo_numbers 141 = .ok (.if_icmp .gt 30, 3) := by decide +kernel
theorem d_Mo_numbers_144 : decode b_Mo_numbers 144 = .ok (.aload_n 0, 1) := by decide +kernel
theorem d_Mo_numbers_145 : decode b_Mo_numbers 145 = .ok (.iload_n 2, 1) := by decide +kernel
theorem d_Mo_numbers_146 : decode b_Mo_numbers 146 = .ok (.ifCond .eq 13, 3) := by decide +kernel
theorem d_Mo_numbers_149 : decode b_Mo_numbers 149 = .ok (.iload_n 3, 1) := by decide +kernel
theorem d_Mo_numbers_150 : decode b_Mo_numbers 150 = .ok (.lload 4, 2) := by decide +kernel
theorem d_Mo_numbers_152 : decode b_Mo_numbers 152 = .ok (.l2i, 1) := by decide +kernel
theorem d_Mo_numbers_153 : decode b_Mo_numbers 153 = .ok (.invokestatic 353, 3) := by decide +kernel
theorem d_Mo_numbers_156 : decode b_Mo_numbers 156 = .ok (.goto 9, 3) := by decide +kernel
theorem d_Mo_numbers_159 : decode b_Mo_numbers 159 = .ok (.iload_n 3, 1) := by decide +kernel
theorem d_Mo_numbers_160 : decode b_Mo_numbers 160 = .ok (.lload 4, 2) := by decide +kernel
theorem d_Mo_numbers_162 : decode b_Mo_numbers 162 = .ok (.invokestatic 357, 3) := by decide +kernel
theorem d_Mo_numbers_165 : decode b_Mo_numbers 165 = .ok (.invokevirtual 285, 3) := by decide +kernel
theorem d_Mo_numbers_168 : decode b_Mo_numbers 168 = .ok (.goto 60, 3) := by decide +kernel
theorem d_Mo_numbers_171 : decode b_Mo_numbers 171 = .ok (.aload_n 0, 1) := by decide +kernel
theorem d_Mo_numbers_172 : decode b_Mo_numbers 172 = .ok (.invokevirtual 301, 3) := by decide +kernel
theorem d_Mo_numbers_175 : decode b_Mo_numbers 175 = .ok (.lstore 6, 2) := by decide +kernel
theorem d_Mo_numbers_177 : decode b_Mo_numbers 177 = .ok (.aload_n 0, 1) := by decide +kernel
theorem d_Mo_numbers_178 : decode b_Mo_numbers 178 = .ok (.iload_n 3, 1) := by decide +kernel
theorem d_Mo_numbers_179 : decode b_Mo_numbers 179 = .ok (.bipush 79, 2) := by decide +kernel
theorem d_Mo_numbers_181 : decode b_Mo_numbers 181 = .ok (.if_icmp .gt 15, 3) := by decide +kernel
theorem d_Mo_numbers_184 : decode b_Mo_numbers 184 = .ok (.iload_n 3, 1) := by decide +kernel
theorem d_Mo_numbers_185 : decode b_Mo_numbers 185 = .ok (.lload 6, 2) := by decide +kernel
theorem d_Mo_numbers_187 : decode b_Mo_numbers 187 = .ok (.lload 4, 2) := by decide +kernel
theorem d_Mo_numbers_189 : decode b_Mo_numbers 189 = .ok (.iload_n 2, 1) := by decide +kernel
theorem d_Mo_numbers_190 : decode b_Mo_numbers 190 = .ok (.invokestatic 361, 3) := by decide +kernel
theorem d_Mo_numbers_193 : decode b_Mo_numbers 193 = .ok (.goto 32, 3) := by decide +kernel
theorem d_Mo_numbers_196 : decode b_Mo_numbers 196 = .ok (.iload_n 2, 1) := by decide +kernel
theorem d_Mo_numbers_197 : decode b_Mo_numbers 197 = .ok (.ifCond .eq 18, 3) := by decide +kernel
theorem d_Mo_numbers_200 : decode b_Mo_numbers 200 = .ok (.aload_n 0, 1) := by decide +kernel
theorem d_Mo_numbers_201 : decode b_Mo_numbers 201 = .ok (.iload_n 3, 1) := by decide +kernel
theorem d_Mo_numbers_202 : decode b_Mo_numbers 202 = .ok (.lload 6, 2) := by decide +kernel
theorem d_Mo_numbers_204 : decode b_Mo_numbers 204 = .ok (.lload 4, 2) := by decide +kernel
theorem d_Mo_numbers_206 : decode b_Mo_numbers 206 = .ok (.iconst 1, 1) := by decide +kernel
theorem d_Mo_numbers_207 : decode b_Mo_numbers 207 = .ok (.invokevirtual 365, 3) := by decide +kernel
theorem d_Mo_numbers_210 : decode b_Mo_numbers 210 = .ok (.l2i, 1) := by decide +kernel
theorem d_Mo_numbers_211 : decode b_Mo_numbers 211 = .ok (.i2l, 1) := by decide +kernel
theorem d_Mo_numbers_212 : decode b_Mo_numbers 212 = .ok (.goto 13, 3) := by decide +kernel
theorem d_Mo_numbers_215 : decode b_Mo_numbers 215 = .ok (.aload_n 0, 1) := by decide +kernel
theorem d_Mo_numbers_216 : decode b_Mo_numbers 216 = .ok (.iload_n 3, 1) := by decide +kernel
theorem d_Mo_numbers_217 : decode b_Mo_numbers 217 = .ok (.lload 6, 2) := by decide +kernel
theorem d_Mo_numbers_219 : decode b_Mo_numbers 219 = .ok (.lload 4, 2) := by decide +kernel
theorem d_Mo_numbers_221 : decode b_Mo_numbers 221 = .ok (.iconst 0, 1) := by decide +kernel
theorem d_Mo_numbers_222 : decode b_Mo_numbers 222 = .ok (.invokevirtual 365, 3) := by decide +kernel
theorem d_Mo_numbers_225 : decode b_Mo_numbers 225 = .ok (.invokevirtual 285, 3) := by decide +kernel
theorem d_Mo_numbers_228 : decode b_Mo_numbers 228 = .ok (.return_, 1) := by decide +kernel
theorem m_1607 : Cond.constantLong R_Mo 368 32 ∈ lw_good := lw_in (List.mem_append_right _ (List.mem_of_getElem? (i := 1607) (by decide +kernel))) (by decide +kernel)
theorem m_1611 : Cond.constantLong R_Mo 370 64 ∈ lw_good := lw_in (List.mem_append_right _ (List.mem_of_getElem? (i := 1611) (by decide +kernel))) (by decide +kernel)
theorem m_1615 : Cond.constantLong R_Mo 374 (-9223372036854775808) ∈ lw_good := lw_in (List.mem_append_right _ (List.mem_of_getElem? (i := 1615) (by decide +kernel))) (by decide +kernel)
theorem m_1620 : Cond.constantLong R_Mo 378 (-2147483648) ∈ lw_good := lw_in (List.mem_append_right _ (List.mem_of_getElem? (i := 1620) (by decide +kernel))) (by decide +kernel)
theorem m_1621 : Cond.methodLink R_Mo 380 y_Mo_over ∈ lw_good := lw_in (List.mem_append_right _ (List.mem_of_getElem? (i := 1621) (by decide +kernel))) (by decide +kernel)
theorem m_1622 : Cond.static y_Mo_over ∈ lw_good := lw_in (List.mem_append_right _ (List.mem_of_getElem? (i := 1622) (by decide +kernel))) (by decide +kernel)
theorem m_1623 : Cond.code y_Mo_over b_Mo_over 8 (some .long) ∈ lw_good := lw_in (List.mem_append_right _ (List.mem_of_getElem? (i := 1623) (by decide +kernel))) (by decide +kernel)
theorem m_1608 : Cond.methodLink R_Mo 357 y_Mo_counted64 ∈ lw_good := lw_in (List.mem_append_right _ (List.mem_of_getElem? (i := 1608) (by decide +kernel))) (by decide +kernel)
theorem m_1609 : Cond.static y_Mo_counted64 ∈ lw_good := lw_in (List.mem_append_right _ (List.mem_of_getElem? (i := 1609) (by decide +kernel))) (by decide +kernel)
theorem m_1610 : Cond.code y_Mo_counted64 b_Mo_counted64 5 (some .long) ∈ lw_good := lw_in (List.mem_append_right _ (List.mem_of_getElem? (i := 1610) (by decide +kernel))) (by decide +kernel)
theorem m_1604 : Cond.methodLink R_Mo 353 y_Mo_counted32 ∈ lw_good := lw_in (List.mem_append_right _ (List.mem_of_getElem? (i := 1604) (by decide +kernel))) (by decide +kernel)
theorem m_1605 : Cond.static y_Mo_counted32 ∈ lw_good := lw_in (List.mem_append_right _ (List.mem_of_getElem? (i := 1605) (by decide +kernel))) (by decide +kernel)
theorem m_1606 : Cond.code y_Mo_counted32 b_Mo_counted32 4 (some .long) ∈ lw_good := lw_in (List.mem_append_right _ (List.mem_of_getElem? (i := 1606) (by decide +kernel))) (by decide +kernel)
theorem m_1616 : Cond.methodLink R_Mo 365 y_Mo_worked ∈ lw_good := lw_in (List.mem_append_right _ (List.mem_of_getElem? (i := 1616) (by decide +kernel))) (by decide +kernel)
theorem m_1618 : Cond.instanceMethod y_Mo_worked ∈ lw_good := lw_in (List.mem_append_right _ (List.mem_of_getElem? (i := 1618) (by decide +kernel))) (by decide +kernel)
theorem ms_Mo_worked : Cond.selects R_Mo y_Mo_worked y_Mo_worked ∈ lw_good := lw_in (by decide +kernel) (by decide +kernel)
theorem m_1619 : Cond.code y_Mo_worked b_Mo_worked 13 (some .long) ∈ lw_good := lw_in (List.mem_append_right _ (List.mem_of_getElem? (i := 1619) (by decide +kernel))) (by decide +kernel)
theorem m_1612 : Cond.methodLink R_Mo 361 y_Mo_compared ∈ lw_good := lw_in (List.mem_append_right _ (List.mem_of_getElem? (i := 1612) (by decide +kernel))) (by decide +kernel)
theorem m_1613 : Cond.static y_Mo_compared ∈ lw_good := lw_in (List.mem_append_right _ (List.mem_of_getElem? (i := 1613) (by decide +kernel))) (by decide +kernel)
theorem m_1614 : Cond.code y_Mo_compared b_Mo_compared 12 (some .long) ∈ lw_good := lw_in (List.mem_append_right _ (List.mem_of_getElem? (i := 1614) (by decide +kernel))) (by decide +kernel)
set_option maxRecDepth 100000 in
abbrev pq_Mo_counted32 (R9 : Out Empty (Int64)) := (fun (o : Outcome) (w1 : va_W) => ozp R9 (fun x9 => (True) ∧ o = .returned (some (.long x9)) ∧ w1 = []) (fun _ => False))
set_option maxHeartbeats 8000000 in
set_option maxRecDepth 100000 in
theorem k_Mo_counted32 (l : Launch) (htr : l.stackTraces = false) (G : va_G) (cB cI cJ cZ cG : ClassId) (v_k : Int) (v_v : Int32) (hv_k : R32 v_k) (fu : Nat) (R9 : Out Empty (Int64)) (hf : f_Mo_counted32 fu v_k v_v = R9) (hnb : R9 ≠ .bad) (sz : Nat) : MetX l y_Mo_counted32 (wx y_Mo_counted32 b_Mo_counted32 4 (some .long)) { frames := 0, cells := 0, slots := 0, locals := 0 } (XP G classes (xtys cB cI cJ cZ cG) xE [.int (iI v_k), .int v_v] [] sz) (XQ G classes (va_A [] sz) (fun o w1 => ozp R9 (fun x9 => (True) ∧ o = .returned (some (.long x9)) ∧ w1 = []) (fun _ => False))) 0 0 (va_A [] sz) := by
  refine ex_ofW (cc := b_Mo_counted32) (maxL := 4) (ret := (some .long)) (by decide) rfl ?_
  intro p e s m args below meth c s₁ B hml hno hv
  obtain ⟨rfl, hsz, hP, hK, hD0, hE⟩ := hv
  have hx := B.exec
  have hb := B.bytes
  have hr := B.returns
  have hts : ∀ w ∈ lw_good, w.before _ s = true := fun w h => atoms_spec (ws := wx y_Mo_counted32 b_Mo_counted32 4 (some .long)) B.pre w (List.mem_cons_of_mem _ h)
  have hown : s.vm.findClass R_Mo = some m.cls := findClass_of_methodNamed B.named
  have hlocks := B.notSynchronized
  subst hsz
  have hNS := xx_nostat hP
  have hD := hD0.self (sz := s.heap.size)
  generalize hAe : va_A [] s.heap.size = A at hD hE hNS ⊢
  have hA : ∀ q : Nat, s.heap.size ≤ q → A q := fun q h => by rw [← hAe]; exact Or.inr h
  have hS : va_S A s.heap s.heap [] := va_S.rf
  have hl := lv_entry ([.int (iI v_k), .int v_v]) (n := 4) (Nat.le_of_ble_eq_true rfl)
  rw [lg_entry_eq]
  generalize (lg_sl ([.int (iI v_k), .int v_v]) ++ List.replicate (4 - (lg_sl ([.int (iI v_k), .int v_v])).length) Slot.unset).toArray = ls at hl ⊢
  have hl : lv_has ls 4 [(0, .int (iI v_k)), (1, .int v_v)] := hl
  unfold f_Mo_counted32 at hf
  refine lv_iconst (v := iI 0) hx hb d_Mo_counted32_0 (by decide) ?_
  refine lv_istore_n (lv' := [(2, .int (iI 0)), (0, .int (iI v_k)), (1, .int v_v)]) hx hb d_Mo_counted32_1 rfl hl (by decide) rfl (fun ls hl => ?_)
  refine lv_iload_n hx hb d_Mo_counted32_2 rfl (lv_at hl 1 rfl) ?_
  refine lv_bipush (v := iI 103) hx hb d_Mo_counted32_3 (by decide) ?_
  refine jpE hf (fun K_2 hK_2 hf9 => ?_)
  replace hf := hf9
  clear hf9
  have hJK_2 : ∀ (y_1 : Int), R32 y_1 → K_2 y_1 = R9 → ∀ (H : Heap) (locs : List Loc), (fun w9 => va_P G classes w9 H → va_D A w9 → va_S A s.heap H locs → ∀ (ls : Array Slot), lv_has ls 4 [(0, .int (iI v_k)), (1, .int v_v), (2, .int (iI y_1))] → W p l e (headSpec (wx y_Mo_counted32 b_Mo_counted32 4 (some .long)) { frames := 0, cells := 0, slots := 0, locals := 0 }).room s m ([.int (iI v_k), .int v_v] : List Value).toArray below meth c H locs 0 0 (MX below (XQ G classes A (pq_Mo_counted32 R9)) ([.int (iI v_k), .int v_v] : List Value).toArray s 0 0 A) (F0 m 74 ls [])) [] := by
    intro y_1 hy_1 hf H_9 locs_9 hP_9 hD_9 hS_9 ls hl
    clear hS hD hP
    replace hf := (congrFun hK_2 y_1).symm.trans hf
    clear hK_2
    refine lv_iload_n hx hb d_Mo_counted32_74 rfl (lv_at hl 0 rfl) ?_
    refine lv_bipush (v := iI 103) hx hb d_Mo_counted32_75 (by decide) ?_
    refine jpE hf (fun K_4 hK_4 hf9 => ?_)
    replace hf := hf9
    clear hf9
    have hJK_4 : ∀ (y_3 : Int64), True → K_4 y_3 = R9 → ∀ (H_9 : Heap) (locs_9 : List Loc), (fun w9 => va_P G classes w9 H_9 → va_D A w9 → va_S A s.heap H_9 locs_9 → ∀ (ls : Array Slot), lv_has ls 4 [(0, .int (iI v_k)), (1, .int v_v), (2, .int (iI y_1))] → W p l e (headSpec (wx y_Mo_counted32 b_Mo_counted32 4 (some .long)) { frames := 0, cells := 0, slots := 0, locals := 0 }).room s m ([.int (iI v_k), .int v_v] : List Value).toArray below meth c H_9 locs_9 0 0 (MX below (XQ G classes A (pq_Mo_counted32 R9)) ([.int (iI v_k), .int v_v] : List Value).toArray s 0 0 A) (F0 m 92 ls [.long y_3])) [] := by
      intro y_3 hy_3 hf H_10 locs_10 hP_10 hD_10 hS_10 ls hl
      clear hS_9 hD_9 hP_9
      replace hf := (congrFun hK_4 y_3).symm.trans hf
      clear hK_4
      exact ex_W (fun _ h => ex_mq h) (W.lret (v := y_3) hx hb hr (fun t ht hW => ⟨⟨_, ozr hf ⟨trivial, rfl, rfl⟩, by rw [ht]; exact hP_10, hD_10⟩, hS_10.F ht⟩) hS_10.2.2 d_Mo_counted32_92)
    clear hK_4
    refine jpE hf (fun K_6 hK_6 hf9 => ?_)
    replace hf := hf9
    clear hf9
    have hJK_6 : ∀ (y_5 : Unit), True → K_6 y_5 = R9 → ∀ (H_9 : Heap) (locs_9 : List Loc), (fun w9 => va_P G classes w9 H_9 → va_D A w9 → va_S A s.heap H_9 locs_9 → ∀ (ls : Array Slot), lv_has ls 4 [(0, .int (iI v_k)), (1, .int v_v), (2, .int (iI y_1))] → W p l e (headSpec (wx y_Mo_counted32 b_Mo_counted32 4 (some .long)) { frames := 0, cells := 0, slots := 0, locals := 0 }).room s m ([.int (iI v_k), .int v_v] : List Value).toArray below meth c H_9 locs_9 0 0 (MX below (XQ G classes A (pq_Mo_counted32 R9)) ([.int (iI v_k), .int v_v] : List Value).toArray s 0 0 A) (F0 m 90 ls [])) [] := by
      intro y_5 hy_5 hf H_11 locs_11 hP_11 hD_11 hS_11 ls hl
      clear hS_9 hD_9 hP_9
      replace hf := (congrFun hK_6 y_5).symm.trans hf
      clear hK_6
      refine lv_iload_n hx hb d_Mo_counted32_90 rfl (lv_at hl 2 rfl) ?_
      refine lv_i2l hx hb d_Mo_counted32_91 rfl ?_
      exact hJK_4 ((iI y_1).toInt64) trivial hf _ _ hP_11 hD_11 hS_11 _ (lv_sub hl [0, 1, 2] rfl)
    clear hK_6
    refine lv_icmp_ne (tgt := 90) hx hb d_Mo_counted32_77 (by decide) (fun c_7 => ?_) (fun c_7 => ?_)
    · have c_7 := (fun q9 => c_7 (((zv_eq (iI_t hv_k) (iI_t (show R32 (103) by decide)))).mpr q9))
      replace hf := ifn c_7 hf
      exact hJK_6 () trivial hf _ _ hP_9 hD_9 hS_9 _ (lv_sub hl [0, 1, 2] rfl)
    · have c_7 := ((zv_eq (iI_t hv_k) (iI_t (show R32 (103) by decide)))).mp c_7
      replace hf := ifp c_7 hf
      refine lv_iload_n hx hb d_Mo_counted32_80 rfl (lv_at hl 1 rfl) ?_
      refine lv_if_ne (tgt := 90) hx hb d_Mo_counted32_81 (by decide) (fun c_8 => ?_) (fun c_8 => ?_)
      · have c_8 := (fun q9 => c_8 (((zv_eq rfl zero_v)).mpr q9))
        replace hf := ifn c_8 hf
        exact hJK_6 () trivial hf _ _ hP_9 hD_9 hS_9 _ (lv_sub hl [0, 1, 2] rfl)
      · have c_8 := ((zv_eq rfl zero_v)).mp c_8
        replace hf := ifp c_8 hf
        refine lv_ldc2 (v := 32) hx hb hown (hts _ m_1607) d_Mo_counted32_84 ?_
        refine lv_goto (tgt := 92) hx hb d_Mo_counted32_87 (by decide) ?_
        exact hJK_4 32 trivial hf _ _ hP_9 hD_9 hS_9 _ (lv_sub hl [0, 1, 2] rfl)
  clear hK_2
  refine lv_icmp_ne (tgt := 26) hx hb d_Mo_counted32_5 (by decide) (fun c_9 => ?_) (fun c_9 => ?_)
  · have c_9 := (fun q9 => c_9 (((zv_eq (iI_t hv_k) (iI_t (show R32 (103) by decide)))).mpr q9))
    replace hf := ifn c_9 hf
    refine lv_iload_n hx hb d_Mo_counted32_26 rfl (lv_at hl 1 rfl) ?_
    refine lv_bipush (v := iI 104) hx hb d_Mo_counted32_27 (by decide) ?_
    refine lv_icmp_ne (tgt := 52) hx hb d_Mo_counted32_29 (by decide) (fun c_10 => ?_) (fun c_10 => ?_)
    · have c_10 := (fun q9 => c_10 (((zv_eq (iI_t hv_k) (iI_t (show R32 (104) by decide)))).mpr q9))
      replace hf := ifn c_10 hf
      refine lv_iconst (v := iI 0) hx hb d_Mo_counted32_52 (by decide) ?_
      refine lv_istore_n (lv' := [(3, .int (iI 0)), (2, .int (iI 0)), (0, .int (iI v_k)), (1, .int v_v)]) hx hb d_Mo_counted32_53 rfl hl (by decide) rfl (fun ls hl => ?_)
      refine obG hf (fun K_13 hK_13 hf => ?_)
      have hJK_13 : ∀ (y_15 : Int × Int), R32 y_15.1 ∧ R32 y_15.2 → K_13 y_15 = R9 → ∀ (H : Heap) (locs : List Loc), (fun w9 => va_P G classes w9 H → va_D A w9 → va_S A s.heap H locs → ∀ (ls : Array Slot), lv_has ls 4 [(0, .int (iI v_k)), (1, .int v_v), (2, .int (iI y_15.1)), (3, .int (iI y_15.2))] → W p l e (headSpec (wx y_Mo_counted32 b_Mo_counted32 4 (some .long)) { frames := 0, cells := 0, slots := 0, locals := 0 }).room s m ([.int (iI v_k), .int v_v] : List Value).toArray below meth c H locs 0 0 (MX below (XQ G classes A (pq_Mo_counted32 R9)) ([.int (iI v_k), .int v_v] : List Value).toArray s 0 0 A) (F0 m 74 ls [])) [] := by
        intro y_15 hy_15 hf H_12 locs_12 hP_12 hD_12 hS_12 ls hl
        clear hS hD hP
        replace hf := (congrFun hK_13 y_15).symm.trans hf
        clear hK_13
        exact hJK_2 y_15.1 hy_15.1 hf _ _ hP_12 hD_12 hS_12 _ (lv_sub hl [0, 1, 2] rfl)
      clear hK_13
      have loop_54 : ∀ (n_11 : Nat) (w_n_16 : Int) (w_i_17 : Int), R32 w_n_16 → R32 w_i_17 → ∀ (R_18 : Out Empty (Int × Int)), L54_Mo_counted32 fu v_v n_11 w_n_16 w_i_17 = R_18 → obind R_18 K_13 = R9 → ∀ (H : Heap) (locs : List Loc), (fun w9 => va_P G classes w9 H → va_D A w9 → va_S A s.heap H locs → ∀ (ls : Array Slot), lv_has ls 4 [(0, .int (iI v_k)), (1, .int v_v), (2, .int (iI w_n_16)), (3, .int (iI w_i_17))] → W p l e (headSpec (wx y_Mo_counted32 b_Mo_counted32 4 (some .long)) { frames := 0, cells := 0, slots := 0, locals := 0 }).room s m ([.int (iI v_k), .int v_v] : List Value).toArray below meth c H locs 0 0 (MX below (XQ G classes A (pq_Mo_counted32 R9)) ([.int (iI v_k), .int v_v] : List Value).toArray s 0 0 A) (F0 m 54 ls [])) [] := by
        intro n_11
        induction n_11 with
        | zero => intro w_n_16 w_i_17  hw_n_16 hw_i_17 R_18 hf hk54; subst hf; exact absurd hk54.symm hnb
        | succ n_11 ih_54 =>
          intro w_n_16 w_i_17  hw_n_16 hw_i_17 R_18 hf hk54 H_13 locs_13 hP_13 hD_13 hS_13 ls hl
          clear hS hD hP
          have hnb : R_18 ≠ .bad := ob_nb hnb hk54
          rw [L54_Mo_counted32.eq_2] at hf
          refine lv_iload_n hx hb d_Mo_counted32_54 rfl (lv_at hl 3 rfl) ?_
          refine lv_bipush (v := iI 32) hx hb d_Mo_counted32_55 (by decide) ?_
          refine lv_icmp_ge (tgt := 74) hx hb d_Mo_counted32_57 (by decide) (fun c_19 => ?_) (fun c_19 => ?_)
          · have c_19 := ((zv_le (iI_t (show R32 (32) by decide)) (iI_t hw_i_17))).mp c_19
            replace hf := ifp c_19 hf
            exact hJK_13 (w_n_16, w_i_17) ⟨hw_n_16, hw_i_17⟩ (ob_r hf hk54) _ _ hP_13 hD_13 hS_13 _ (lv_sub hl [0, 1, 2, 3] rfl)
          · have c_19 := (fun q9 => c_19 (((zv_le (iI_t (show R32 (32) by decide)) (iI_t hw_i_17))).mpr q9))
            replace hf := ifn c_19 hf
            refine lv_iload_n hx hb d_Mo_counted32_60 rfl (lv_at hl 2 rfl) ?_
            refine lv_iload_n hx hb d_Mo_counted32_61 rfl (lv_at hl 1 rfl) ?_
            refine lv_iload_n hx hb d_Mo_counted32_62 rfl (lv_at hl 3 rfl) ?_
            refine lv_ishr hx hb d_Mo_counted32_63 ?_
            refine lv_iconst (v := iI 1) hx hb d_Mo_counted32_64 (by decide) ?_
            refine lv_iand hx hb d_Mo_counted32_65 ?_
            refine lv_iadd hx hb d_Mo_counted32_66 ?_
            refine W.eq (g2 := F0 m 67 ls [.int (iI (((iI w_n_16) + ((v_v >>> ((iI w_i_17) &&& 31)) &&& (iI 1))).toInt))]) (by rw [← iI_of ((iI w_n_16) + ((v_v >>> ((iI w_i_17) &&& 31)) &&& (iI 1)))] <;> rfl) ?_
            refine lv_istore_n (lv' := [(2, .int (iI (((iI w_n_16) + ((v_v >>> ((iI w_i_17) &&& 31)) &&& (iI 1))).toInt))), (0, .int (iI v_k)), (1, .int v_v), (3, .int (iI w_i_17))]) hx hb d_Mo_counted32_67 rfl hl (by decide) rfl (fun ls hl => ?_)
            replace hf := grd hnb hf
            obtain ⟨g_20, hf⟩ := hf
            refine lv_iinc (v := iI (w_i_17 + 1)) (lv' := [(3, .int (iI (w_i_17 + 1))), (2, .int (iI (((iI w_n_16) + ((v_v >>> ((iI w_i_17) &&& 31)) &&& (iI 1))).toInt))), (0, .int (iI v_k)), (1, .int v_v)]) hx hb d_Mo_counted32_68 hl (k := 3) rfl (iI_add _ 1) (by decide) rfl (fun ls hl => ?_)
            refine lv_goto (tgt := 54) hx hb d_Mo_counted32_71 (by decide) ?_
            exact ih_54 (((iI w_n_16) + ((v_v >>> ((iI w_i_17) &&& 31)) &&& (iI 1))).toInt) (w_i_17 + 1) (R32_of _) g_20 _ hf hk54 _ _ hP_13 hD_13 hS_13 _ (lv_sub hl [2, 3, 1, 0] rfl)
      exact loop_54 fu 0 0 (show R32 (0) by decide) (show R32 (0) by decide) _ rfl hf _ _ hP hD hS _ (lv_sub hl [2, 3, 1, 0] rfl)
    · have c_10 := ((zv_eq (iI_t hv_k) (iI_t (show R32 (104) by decide)))).mp c_10
      replace hf := ifp c_10 hf
      refine obG hf (fun K_23 hK_23 hf => ?_)
      have hJK_23 : ∀ (y_25 : Int), R32 y_25 → K_23 y_25 = R9 → ∀ (H : Heap) (locs : List Loc), (fun w9 => va_P G classes w9 H → va_D A w9 → va_S A s.heap H locs → ∀ (ls : Array Slot), lv_has ls 4 [(0, .int (iI v_k)), (1, .int v_v), (2, .int (iI y_25))] → W p l e (headSpec (wx y_Mo_counted32 b_Mo_counted32 4 (some .long)) { frames := 0, cells := 0, slots := 0, locals := 0 }).room s m ([.int (iI v_k), .int v_v] : List Value).toArray below meth c H locs 0 0 (MX below (XQ G classes A (pq_Mo_counted32 R9)) ([.int (iI v_k), .int v_v] : List Value).toArray s 0 0 A) (F0 m 74 ls [])) [] := by
        intro y_25 hy_25 hf H_14 locs_14 hP_14 hD_14 hS_14 ls hl
        clear hS hD hP
        replace hf := (congrFun hK_23 y_25).symm.trans hf
        clear hK_23
        exact hJK_2 y_25 hy_25 hf _ _ hP_14 hD_14 hS_14 _ (lv_sub hl [0, 1, 2] rfl)
      clear hK_23
      have loop_32 : ∀ (n_21 : Nat) (w_n_26 : Int), R32 w_n_26 → ∀ (R_27 : Out Empty (Int)), L32_Mo_counted32 fu v_v n_21 w_n_26 = R_27 → obind R_27 K_23 = R9 → ∀ (H : Heap) (locs : List Loc), (fun w9 => va_P G classes w9 H → va_D A w9 → va_S A s.heap H locs → ∀ (ls : Array Slot), lv_has ls 4 [(0, .int (iI v_k)), (1, .int v_v), (2, .int (iI w_n_26))] → W p l e (headSpec (wx y_Mo_counted32 b_Mo_counted32 4 (some .long)) { frames := 0, cells := 0, slots := 0, locals := 0 }).room s m ([.int (iI v_k), .int v_v] : List Value).toArray below meth c H locs 0 0 (MX below (XQ G classes A (pq_Mo_counted32 R9)) ([.int (iI v_k), .int v_v] : List Value).toArray s 0 0 A) (F0 m 32 ls [])) [] := by
        intro n_21
        induction n_21 with
        | zero => intro w_n_26  hw_n_26 R_27 hf hk32; subst hf; exact absurd hk32.symm hnb
        | succ n_21 ih_32 =>
          intro w_n_26  hw_n_26 R_27 hf hk32 H_15 locs_15 hP_15 hD_15 hS_15 ls hl
          clear hS hD hP
          have hnb : R_27 ≠ .bad := ob_nb hnb hk32
          rw [L32_Mo_counted32.eq_2] at hf
          refine lv_iload_n hx hb d_Mo_counted32_32 rfl (lv_at hl 2 rfl) ?_
          refine lv_bipush (v := iI 32) hx hb d_Mo_counted32_33 (by decide) ?_
          refine lv_icmp_ge (tgt := 74) hx hb d_Mo_counted32_35 (by decide) (fun c_28 => ?_) (fun c_28 => ?_)
          · have c_28 := ((zv_le (iI_t (show R32 (32) by decide)) (iI_t hw_n_26))).mp c_28
            replace hf := ifp c_28 hf
            exact hJK_23 w_n_26 hw_n_26 (ob_r hf hk32) _ _ hP_15 hD_15 hS_15 _ (lv_sub hl [0, 1, 2] rfl)
          · have c_28 := (fun q9 => c_28 (((zv_le (iI_t (show R32 (32) by decide)) (iI_t hw_n_26))).mpr q9))
            replace hf := ifn c_28 hf
            refine lv_iload_n hx hb d_Mo_counted32_38 rfl (lv_at hl 1 rfl) ?_
            refine lv_iload_n hx hb d_Mo_counted32_39 rfl (lv_at hl 2 rfl) ?_
            refine lv_ishr hx hb d_Mo_counted32_40 ?_
            refine lv_iconst (v := iI 1) hx hb d_Mo_counted32_41 (by decide) ?_
            refine lv_iand hx hb d_Mo_counted32_42 ?_
            refine lv_if_ne (tgt := 74) hx hb d_Mo_counted32_43 (by decide) (fun c_29 => ?_) (fun c_29 => ?_)
            · have c_29 := (fun q9 => c_29 (((zv_eq rfl zero_v)).mpr q9))
              replace hf := ifn c_29 hf
              exact hJK_23 w_n_26 hw_n_26 (ob_r hf hk32) _ _ hP_15 hD_15 hS_15 _ (lv_sub hl [0, 1, 2] rfl)
            · have c_29 := ((zv_eq rfl zero_v)).mp c_29
              replace hf := ifp c_29 hf
              replace hf := grd hnb hf
              obtain ⟨g_30, hf⟩ := hf
              refine lv_iinc (v := iI (w_n_26 + 1)) (lv' := [(2, .int (iI (w_n_26 + 1))), (0, .int (iI v_k)), (1, .int v_v)]) hx hb d_Mo_counted32_46 hl (k := 2) rfl (iI_add _ 1) (by decide) rfl (fun ls hl => ?_)
              refine lv_goto (tgt := 32) hx hb d_Mo_counted32_49 (by decide) ?_
              exact ih_32 (w_n_26 + 1) g_30 _ hf hk32 _ _ hP_15 hD_15 hS_15 _ (lv_sub hl [1, 2, 0] rfl)
      exact loop_32 fu 0 (show R32 (0) by decide) _ rfl hf _ _ hP hD hS _ (lv_sub hl [1, 2, 0] rfl)
  · have c_9 := ((zv_eq (iI_t hv_k) (iI_t (show R32 (103) by decide)))).mp c_9
    replace hf := ifp c_9 hf
    refine obG hf (fun K_33 hK_33 hf => ?_)
    have hJK_33 : ∀ (y_35 : Int), R32 y_35 → K_33 y_35 = R9 → ∀ (H : Heap) (locs : List Loc), (fun w9 => va_P G classes w9 H → va_D A w9 → va_S A s.heap H locs → ∀ (ls : Array Slot), lv_has ls 4 [(0, .int (iI v_k)), (1, .int v_v), (2, .int (iI y_35))] → W p l e (headSpec (wx y_Mo_counted32 b_Mo_counted32 4 (some .long)) { frames := 0, cells := 0, slots := 0, locals := 0 }).room s m ([.int (iI v_k), .int v_v] : List Value).toArray below meth c H locs 0 0 (MX below (XQ G classes A (pq_Mo_counted32 R9)) ([.int (iI v_k), .int v_v] : List Value).toArray s 0 0 A) (F0 m 74 ls [])) [] := by
      intro y_35 hy_35 hf H_16 locs_16 hP_16 hD_16 hS_16 ls hl
      clear hS hD hP
      replace hf := (congrFun hK_33 y_35).symm.trans hf
      clear hK_33
      exact hJK_2 y_35 hy_35 hf _ _ hP_16 hD_16 hS_16 _ (lv_sub hl [0, 1, 2] rfl)
    clear hK_33
    have loop_8 : ∀ (n_31 : Nat) (w_n_36 : Int), R32 w_n_36 → ∀ (R_37 : Out Empty (Int)), L8_Mo_counted32 fu v_v n_31 w_n_36 = R_37 → obind R_37 K_33 = R9 → ∀ (H : Heap) (locs : List Loc), (fun w9 => va_P G classes w9 H → va_D A w9 → va_S A s.heap H locs → ∀ (ls : Array Slot), lv_has ls 4 [(0, .int (iI v_k)), (1, .int v_v), (2, .int (iI w_n_36))] → W p l e (headSpec (wx y_Mo_counted32 b_Mo_counted32 4 (some .long)) { frames := 0, cells := 0, slots := 0, locals := 0 }).room s m ([.int (iI v_k), .int v_v] : List Value).toArray below meth c H locs 0 0 (MX below (XQ G classes A (pq_Mo_counted32 R9)) ([.int (iI v_k), .int v_v] : List Value).toArray s 0 0 A) (F0 m 8 ls [])) [] := by
      intro n_31
      induction n_31 with
      | zero => intro w_n_36  hw_n_36 R_37 hf hk8; subst hf; exact absurd hk8.symm hnb
      | succ n_31 ih_8 =>
        intro w_n_36  hw_n_36 R_37 hf hk8 H_17 locs_17 hP_17 hD_17 hS_17 ls hl
        clear hS hD hP
        have hnb : R_37 ≠ .bad := ob_nb hnb hk8
        rw [L8_Mo_counted32.eq_2] at hf
        refine lv_iload_n hx hb d_Mo_counted32_8 rfl (lv_at hl 2 rfl) ?_
        refine lv_bipush (v := iI 32) hx hb d_Mo_counted32_9 (by decide) ?_
        refine lv_icmp_ge (tgt := 74) hx hb d_Mo_counted32_11 (by decide) (fun c_38 => ?_) (fun c_38 => ?_)
        · have c_38 := ((zv_le (iI_t (show R32 (32) by decide)) (iI_t hw_n_36))).mp c_38
          replace hf := ifp c_38 hf
          exact hJK_33 w_n_36 hw_n_36 (ob_r hf hk8) _ _ hP_17 hD_17 hS_17 _ (lv_sub hl [0, 1, 2] rfl)
        · have c_38 := (fun q9 => c_38 (((zv_le (iI_t (show R32 (32) by decide)) (iI_t hw_n_36))).mpr q9))
          replace hf := ifn c_38 hf
          refine lv_iload_n hx hb d_Mo_counted32_14 rfl (lv_at hl 1 rfl) ?_
          refine lv_iload_n hx hb d_Mo_counted32_15 rfl (lv_at hl 2 rfl) ?_
          refine lv_ishl hx hb d_Mo_counted32_16 ?_
          refine lv_if_lt (tgt := 74) hx hb d_Mo_counted32_17 (by decide) (fun c_39 => ?_) (fun c_39 => ?_)
          · have c_39 := ((zv_lt rfl zero_v)).mp c_39
            replace hf := ifp c_39 hf
            exact hJK_33 w_n_36 hw_n_36 (ob_r hf hk8) _ _ hP_17 hD_17 hS_17 _ (lv_sub hl [0, 1, 2] rfl)
          · have c_39 := (fun q9 => c_39 (((zv_lt rfl zero_v)).mpr q9))
            replace hf := ifn c_39 hf
            replace hf := grd hnb hf
            obtain ⟨g_40, hf⟩ := hf
            refine lv_iinc (v := iI (w_n_36 + 1)) (lv' := [(2, .int (iI (w_n_36 + 1))), (0, .int (iI v_k)), (1, .int v_v)]) hx hb d_Mo_counted32_20 hl (k := 2) rfl (iI_add _ 1) (by decide) rfl (fun ls hl => ?_)
            refine lv_goto (tgt := 8) hx hb d_Mo_counted32_23 (by decide) ?_
            exact ih_8 (w_n_36 + 1) g_40 _ hf hk8 _ _ hP_17 hD_17 hS_17 _ (lv_sub hl [1, 2, 0] rfl)
    exact loop_8 fu 0 (show R32 (0) by decide) _ rfl hf _ _ hP hD hS _ (lv_sub hl [1, 2, 0] rfl)
set_option maxRecDepth 100000 in
abbrev pq_Mo_counted64 (R9 : Out Empty (Int64)) := (fun (o : Outcome) (w1 : va_W) => ozp R9 (fun x9 => (True) ∧ o = .returned (some (.long x9)) ∧ w1 = []) (fun _ => False))
set_option maxHeartbeats 8000000 in
set_option maxRecDepth 100000 in
theorem k_Mo_counted64 (l : Launch) (htr : l.stackTraces = false) (G : va_G) (cB cI cJ cZ cG : ClassId) (v_k : Int) (v_v : Int64) (hv_k : R32 v_k) (fu : Nat) (R9 : Out Empty (Int64)) (hf : f_Mo_counted64 fu v_k v_v = R9) (hnb : R9 ≠ .bad) (sz : Nat) : MetX l y_Mo_counted64 (wx y_Mo_counted64 b_Mo_counted64 5 (some .long)) { frames := 0, cells := 0, slots := 0, locals := 0 } (XP G classes (xtys cB cI cJ cZ cG) xE [.int (iI v_k), .long v_v] [] sz) (XQ G classes (va_A [] sz) (fun o w1 => ozp R9 (fun x9 => (True) ∧ o = .returned (some (.long x9)) ∧ w1 = []) (fun _ => False))) 0 0 (va_A [] sz) := by
  refine ex_ofW (cc := b_Mo_counted64) (maxL := 5) (ret := (some .long)) (by decide) rfl ?_
  intro p e s m args below meth c s₁ B hml hno hv
  obtain ⟨rfl, hsz, hP, hK, hD0, hE⟩ := hv
  have hx := B.exec
  have hb := B.bytes
  have hr := B.returns
  have hts : ∀ w ∈ lw_good, w.before _ s = true := fun w h => atoms_spec (ws := wx y_Mo_counted64 b_Mo_counted64 5 (some .long)) B.pre w (List.mem_cons_of_mem _ h)
  have hown : s.vm.findClass R_Mo = some m.cls := findClass_of_methodNamed B.named
  have hlocks := B.notSynchronized
  subst hsz
  have hNS := xx_nostat hP
  have hD := hD0.self (sz := s.heap.size)
  generalize hAe : va_A [] s.heap.size = A at hD hE hNS ⊢
  have hA : ∀ q : Nat, s.heap.size ≤ q → A q := fun q h => by rw [← hAe]; exact Or.inr h
  have hS : va_S A s.heap s.heap [] := va_S.rf
  have hl := lv_entry ([.int (iI v_k), .long v_v]) (n := 5) (Nat.le_of_ble_eq_true rfl)
  rw [lg_entry_eq]
  generalize (lg_sl ([.int (iI v_k), .long v_v]) ++ List.replicate (5 - (lg_sl ([.int (iI v_k), .long v_v])).length) Slot.unset).toArray = ls at hl ⊢
  have hl : lv_has ls 5 [(0, .int (iI v_k)), (1, .long v_v)] := hl
  unfold f_Mo_counted64 at hf
  refine lv_iconst (v := iI 0) hx hb d_Mo_counted64_0 (by decide) ?_
  refine lv_istore_n (lv' := [(3, .int (iI 0)), (0, .int (iI v_k)), (1, .long v_v)]) hx hb d_Mo_counted64_1 rfl hl (by decide) rfl (fun ls hl => ?_)
  refine lv_iload_n hx hb d_Mo_counted64_2 rfl (lv_at hl 1 rfl) ?_
  refine lv_bipush (v := iI 103) hx hb d_Mo_counted64_3 (by decide) ?_
  refine jpE hf (fun K_2 hK_2 hf9 => ?_)
  replace hf := hf9
  clear hf9
  have hJK_2 : ∀ (y_1 : Int), R32 y_1 → K_2 y_1 = R9 → ∀ (H : Heap) (locs : List Loc), (fun w9 => va_P G classes w9 H → va_D A w9 → va_S A s.heap H locs → ∀ (ls : Array Slot), lv_has ls 5 [(0, .int (iI v_k)), (1, .long v_v), (3, .int (iI y_1))] → W p l e (headSpec (wx y_Mo_counted64 b_Mo_counted64 5 (some .long)) { frames := 0, cells := 0, slots := 0, locals := 0 }).room s m ([.int (iI v_k), .long v_v] : List Value).toArray below meth c H locs 0 0 (MX below (XQ G classes A (pq_Mo_counted64 R9)) ([.int (iI v_k), .long v_v] : List Value).toArray s 0 0 A) (F0 m 82 ls [])) [] := by
    intro y_1 hy_1 hf H_9 locs_9 hP_9 hD_9 hS_9 ls hl
    clear hS hD hP
    replace hf := (congrFun hK_2 y_1).symm.trans hf
    clear hK_2
    refine lv_iload_n hx hb d_Mo_counted64_82 rfl (lv_at hl 0 rfl) ?_
    refine lv_bipush (v := iI 103) hx hb d_Mo_counted64_83 (by decide) ?_
    refine jpE hf (fun K_4 hK_4 hf9 => ?_)
    replace hf := hf9
    clear hf9
    have hJK_4 : ∀ (y_3 : Int64), True → K_4 y_3 = R9 → ∀ (H_9 : Heap) (locs_9 : List Loc), (fun w9 => va_P G classes w9 H_9 → va_D A w9 → va_S A s.heap H_9 locs_9 → ∀ (ls : Array Slot), lv_has ls 5 [(0, .int (iI v_k)), (1, .long v_v), (3, .int (iI y_1))] → W p l e (headSpec (wx y_Mo_counted64 b_Mo_counted64 5 (some .long)) { frames := 0, cells := 0, slots := 0, locals := 0 }).room s m ([.int (iI v_k), .long v_v] : List Value).toArray below meth c H_9 locs_9 0 0 (MX below (XQ G classes A (pq_Mo_counted64 R9)) ([.int (iI v_k), .long v_v] : List Value).toArray s 0 0 A) (F0 m 102 ls [.long y_3])) [] := by
      intro y_3 hy_3 hf H_10 locs_10 hP_10 hD_10 hS_10 ls hl
      clear hS_9 hD_9 hP_9
      replace hf := (congrFun hK_4 y_3).symm.trans hf
      clear hK_4
      exact ex_W (fun _ h => ex_mq h) (W.lret (v := y_3) hx hb hr (fun t ht hW => ⟨⟨_, ozr hf ⟨trivial, rfl, rfl⟩, by rw [ht]; exact hP_10, hD_10⟩, hS_10.F ht⟩) hS_10.2.2 d_Mo_counted64_102)
    clear hK_4
    refine jpE hf (fun K_6 hK_6 hf9 => ?_)
    replace hf := hf9
    clear hf9
    have hJK_6 : ∀ (y_5 : Unit), True → K_6 y_5 = R9 → ∀ (H_9 : Heap) (locs_9 : List Loc), (fun w9 => va_P G classes w9 H_9 → va_D A w9 → va_S A s.heap H_9 locs_9 → ∀ (ls : Array Slot), lv_has ls 5 [(0, .int (iI v_k)), (1, .long v_v), (3, .int (iI y_1))] → W p l e (headSpec (wx y_Mo_counted64 b_Mo_counted64 5 (some .long)) { frames := 0, cells := 0, slots := 0, locals := 0 }).room s m ([.int (iI v_k), .long v_v] : List Value).toArray below meth c H_9 locs_9 0 0 (MX below (XQ G classes A (pq_Mo_counted64 R9)) ([.int (iI v_k), .long v_v] : List Value).toArray s 0 0 A) (F0 m 100 ls [])) [] := by
      intro y_5 hy_5 hf H_11 locs_11 hP_11 hD_11 hS_11 ls hl
      clear hS_9 hD_9 hP_9
      replace hf := (congrFun hK_6 y_5).symm.trans hf
      clear hK_6
      refine lv_iload_n hx hb d_Mo_counted64_100 rfl (lv_at hl 2 rfl) ?_
      refine lv_i2l hx hb d_Mo_counted64_101 rfl ?_
      exact hJK_4 ((iI y_1).toInt64) trivial hf _ _ hP_11 hD_11 hS_11 _ (lv_sub hl [0, 1, 2] rfl)
    clear hK_6
    refine lv_icmp_ne (tgt := 100) hx hb d_Mo_counted64_85 (by decide) (fun c_7 => ?_) (fun c_7 => ?_)
    · have c_7 := (fun q9 => c_7 (((zv_eq (iI_t hv_k) (iI_t (show R32 (103) by decide)))).mpr q9))
      replace hf := ifn c_7 hf
      exact hJK_6 () trivial hf _ _ hP_9 hD_9 hS_9 _ (lv_sub hl [0, 1, 2] rfl)
    · have c_7 := ((zv_eq (iI_t hv_k) (iI_t (show R32 (103) by decide)))).mp c_7
      replace hf := ifp c_7 hf
      refine lv_lload_n hx hb d_Mo_counted64_88 rfl (lv_at hl 1 rfl) ?_
      refine lv_lconst (v := 0) hx hb d_Mo_counted64_89 (by decide) ?_
      refine W.lcmp hx hb d_Mo_counted64_90 ?_
      refine lv_if_ne (tgt := 100) hx hb d_Mo_counted64_91 (by decide) (fun c_8 => ?_) (fun c_8 => ?_)
      · have c_8 := (fun q9 => c_8 ((lc_eq).mpr q9))
        replace hf := ifn c_8 hf
        exact hJK_6 () trivial hf _ _ hP_9 hD_9 hS_9 _ (lv_sub hl [0, 1, 2] rfl)
      · have c_8 := (lc_eq).mp c_8
        replace hf := ifp c_8 hf
        refine lv_ldc2 (v := 64) hx hb hown (hts _ m_1611) d_Mo_counted64_94 ?_
        refine lv_goto (tgt := 102) hx hb d_Mo_counted64_97 (by decide) ?_
        exact hJK_4 64 trivial hf _ _ hP_9 hD_9 hS_9 _ (lv_sub hl [0, 1, 2] rfl)
  clear hK_2
  refine lv_icmp_ne (tgt := 28) hx hb d_Mo_counted64_5 (by decide) (fun c_9 => ?_) (fun c_9 => ?_)
  · have c_9 := (fun q9 => c_9 (((zv_eq (iI_t hv_k) (iI_t (show R32 (103) by decide)))).mpr q9))
    replace hf := ifn c_9 hf
    refine lv_iload_n hx hb d_Mo_counted64_28 rfl (lv_at hl 1 rfl) ?_
    refine lv_bipush (v := iI 104) hx hb d_Mo_counted64_29 (by decide) ?_
    refine lv_icmp_ne (tgt := 56) hx hb d_Mo_counted64_31 (by decide) (fun c_10 => ?_) (fun c_10 => ?_)
    · have c_10 := (fun q9 => c_10 (((zv_eq (iI_t hv_k) (iI_t (show R32 (104) by decide)))).mpr q9))
      replace hf := ifn c_10 hf
      refine lv_iconst (v := iI 0) hx hb d_Mo_counted64_56 (by decide) ?_
      refine lv_istore (lv' := [(4, .int (iI 0)), (3, .int (iI 0)), (0, .int (iI v_k)), (1, .long v_v)]) hx hb d_Mo_counted64_57 hl (by decide) rfl (fun ls hl => ?_)
      refine obG hf (fun K_13 hK_13 hf => ?_)
      have hJK_13 : ∀ (y_15 : Int × Int), R32 y_15.1 ∧ R32 y_15.2 → K_13 y_15 = R9 → ∀ (H : Heap) (locs : List Loc), (fun w9 => va_P G classes w9 H → va_D A w9 → va_S A s.heap H locs → ∀ (ls : Array Slot), lv_has ls 5 [(0, .int (iI v_k)), (1, .long v_v), (3, .int (iI y_15.1)), (4, .int (iI y_15.2))] → W p l e (headSpec (wx y_Mo_counted64 b_Mo_counted64 5 (some .long)) { frames := 0, cells := 0, slots := 0, locals := 0 }).room s m ([.int (iI v_k), .long v_v] : List Value).toArray below meth c H locs 0 0 (MX below (XQ G classes A (pq_Mo_counted64 R9)) ([.int (iI v_k), .long v_v] : List Value).toArray s 0 0 A) (F0 m 82 ls [])) [] := by
        intro y_15 hy_15 hf H_12 locs_12 hP_12 hD_12 hS_12 ls hl
        clear hS hD hP
        replace hf := (congrFun hK_13 y_15).symm.trans hf
        clear hK_13
        exact hJK_2 y_15.1 hy_15.1 hf _ _ hP_12 hD_12 hS_12 _ (lv_sub hl [0, 1, 2] rfl)
      clear hK_13
      have loop_59 : ∀ (n_11 : Nat) (w_n_16 : Int) (w_i_17 : Int), R32 w_n_16 → R32 w_i_17 → ∀ (R_18 : Out Empty (Int × Int)), L59_Mo_counted64 fu v_v n_11 w_n_16 w_i_17 = R_18 → obind R_18 K_13 = R9 → ∀ (H : Heap) (locs : List Loc), (fun w9 => va_P G classes w9 H → va_D A w9 → va_S A s.heap H locs → ∀ (ls : Array Slot), lv_has ls 5 [(0, .int (iI v_k)), (1, .long v_v), (3, .int (iI w_n_16)), (4, .int (iI w_i_17))] → W p l e (headSpec (wx y_Mo_counted64 b_Mo_counted64 5 (some .long)) { frames := 0, cells := 0, slots := 0, locals := 0 }).room s m ([.int (iI v_k), .long v_v] : List Value).toArray below meth c H locs 0 0 (MX below (XQ G classes A (pq_Mo_counted64 R9)) ([.int (iI v_k), .long v_v] : List Value).toArray s 0 0 A) (F0 m 59 ls [])) [] := by
        intro n_11
        induction n_11 with
        | zero => intro w_n_16 w_i_17  hw_n_16 hw_i_17 R_18 hf hk59; subst hf; exact absurd hk59.symm hnb
        | succ n_11 ih_59 =>
          intro w_n_16 w_i_17  hw_n_16 hw_i_17 R_18 hf hk59 H_13 locs_13 hP_13 hD_13 hS_13 ls hl
          clear hS hD hP
          have hnb : R_18 ≠ .bad := ob_nb hnb hk59
          rw [L59_Mo_counted64.eq_2] at hf
          refine lv_iload hx hb d_Mo_counted64_59 (lv_at hl 3 rfl) ?_
          refine lv_bipush (v := iI 64) hx hb d_Mo_counted64_61 (by decide) ?_
          refine lv_icmp_ge (tgt := 82) hx hb d_Mo_counted64_63 (by decide) (fun c_19 => ?_) (fun c_19 => ?_)
          · have c_19 := ((zv_le (iI_t (show R32 (64) by decide)) (iI_t hw_i_17))).mp c_19
            replace hf := ifp c_19 hf
            exact hJK_13 (w_n_16, w_i_17) ⟨hw_n_16, hw_i_17⟩ (ob_r hf hk59) _ _ hP_13 hD_13 hS_13 _ (lv_sub hl [0, 1, 2, 3] rfl)
          · have c_19 := (fun q9 => c_19 (((zv_le (iI_t (show R32 (64) by decide)) (iI_t hw_i_17))).mpr q9))
            replace hf := ifn c_19 hf
            refine lv_iload_n hx hb d_Mo_counted64_66 rfl (lv_at hl 2 rfl) ?_
            refine lv_lload_n hx hb d_Mo_counted64_67 rfl (lv_at hl 1 rfl) ?_
            refine lv_iload hx hb d_Mo_counted64_68 (lv_at hl 3 rfl) ?_
            refine lv_lshr hx hb d_Mo_counted64_70 rfl ?_
            refine lv_lconst (v := 1) hx hb d_Mo_counted64_71 (by decide) ?_
            refine lv_land hx hb d_Mo_counted64_72 ?_
            refine lv_l2i hx hb d_Mo_counted64_73 rfl ?_
            refine lv_iadd hx hb d_Mo_counted64_74 ?_
            refine W.eq (g2 := F0 m 75 ls [.int (iI (((iI w_n_16) + (((v_v >>> ((iI w_i_17).toInt64 &&& 63)) &&& 1).toInt32)).toInt))]) (by rw [← iI_of ((iI w_n_16) + (((v_v >>> ((iI w_i_17).toInt64 &&& 63)) &&& 1).toInt32))] <;> rfl) ?_
            refine lv_istore_n (lv' := [(3, .int (iI (((iI w_n_16) + (((v_v >>> ((iI w_i_17).toInt64 &&& 63)) &&& 1).toInt32)).toInt))), (0, .int (iI v_k)), (1, .long v_v), (4, .int (iI w_i_17))]) hx hb d_Mo_counted64_75 rfl hl (by decide) rfl (fun ls hl => ?_)
            replace hf := grd hnb hf
            obtain ⟨g_20, hf⟩ := hf
            refine lv_iinc (v := iI (w_i_17 + 1)) (lv' := [(4, .int (iI (w_i_17 + 1))), (3, .int (iI (((iI w_n_16) + (((v_v >>> ((iI w_i_17).toInt64 &&& 63)) &&& 1).toInt32)).toInt))), (0, .int (iI v_k)), (1, .long v_v)]) hx hb d_Mo_counted64_76 hl (k := 3) rfl (iI_add _ 1) (by decide) rfl (fun ls hl => ?_)
            refine lv_goto (tgt := 59) hx hb d_Mo_counted64_79 (by decide) ?_
            exact ih_59 (((iI w_n_16) + (((v_v >>> ((iI w_i_17).toInt64 &&& 63)) &&& 1).toInt32)).toInt) (w_i_17 + 1) (R32_of _) g_20 _ hf hk59 _ _ hP_13 hD_13 hS_13 _ (lv_sub hl [2, 3, 1, 0] rfl)
      exact loop_59 fu 0 0 (show R32 (0) by decide) (show R32 (0) by decide) _ rfl hf _ _ hP hD hS _ (lv_sub hl [2, 3, 1, 0] rfl)
    · have c_10 := ((zv_eq (iI_t hv_k) (iI_t (show R32 (104) by decide)))).mp c_10
      replace hf := ifp c_10 hf
      refine obG hf (fun K_23 hK_23 hf => ?_)
      have hJK_23 : ∀ (y_25 : Int), R32 y_25 → K_23 y_25 = R9 → ∀ (H : Heap) (locs : List Loc), (fun w9 => va_P G classes w9 H → va_D A w9 → va_S A s.heap H locs → ∀ (ls : Array Slot), lv_has ls 5 [(0, .int (iI v_k)), (1, .long v_v), (3, .int (iI y_25))] → W p l e (headSpec (wx y_Mo_counted64 b_Mo_counted64 5 (some .long)) { frames := 0, cells := 0, slots := 0, locals := 0 }).room s m ([.int (iI v_k), .long v_v] : List Value).toArray below meth c H locs 0 0 (MX below (XQ G classes A (pq_Mo_counted64 R9)) ([.int (iI v_k), .long v_v] : List Value).toArray s 0 0 A) (F0 m 82 ls [])) [] := by
        intro y_25 hy_25 hf H_14 locs_14 hP_14 hD_14 hS_14 ls hl
        clear hS hD hP
        replace hf := (congrFun hK_23 y_25).symm.trans hf
        clear hK_23
        exact hJK_2 y_25 hy_25 hf _ _ hP_14 hD_14 hS_14 _ (lv_sub hl [0, 1, 2] rfl)
      clear hK_23
      have loop_34 : ∀ (n_21 : Nat) (w_n_26 : Int), R32 w_n_26 → ∀ (R_27 : Out Empty (Int)), L34_Mo_counted64 fu v_v n_21 w_n_26 = R_27 → obind R_27 K_23 = R9 → ∀ (H : Heap) (locs : List Loc), (fun w9 => va_P G classes w9 H → va_D A w9 → va_S A s.heap H locs → ∀ (ls : Array Slot), lv_has ls 5 [(0, .int (iI v_k)), (1, .long v_v), (3, .int (iI w_n_26))] → W p l e (headSpec (wx y_Mo_counted64 b_Mo_counted64 5 (some .long)) { frames := 0, cells := 0, slots := 0, locals := 0 }).room s m ([.int (iI v_k), .long v_v] : List Value).toArray below meth c H locs 0 0 (MX below (XQ G classes A (pq_Mo_counted64 R9)) ([.int (iI v_k), .long v_v] : List Value).toArray s 0 0 A) (F0 m 34 ls [])) [] := by
        intro n_21
        induction n_21 with
        | zero => intro w_n_26  hw_n_26 R_27 hf hk34; subst hf; exact absurd hk34.symm hnb
        | succ n_21 ih_34 =>
          intro w_n_26  hw_n_26 R_27 hf hk34 H_15 locs_15 hP_15 hD_15 hS_15 ls hl
          clear hS hD hP
          have hnb : R_27 ≠ .bad := ob_nb hnb hk34
          rw [L34_Mo_counted64.eq_2] at hf
          refine lv_iload_n hx hb d_Mo_counted64_34 rfl (lv_at hl 2 rfl) ?_
          refine lv_bipush (v := iI 64) hx hb d_Mo_counted64_35 (by decide) ?_
          refine lv_icmp_ge (tgt := 82) hx hb d_Mo_counted64_37 (by decide) (fun c_28 => ?_) (fun c_28 => ?_)
          · have c_28 := ((zv_le (iI_t (show R32 (64) by decide)) (iI_t hw_n_26))).mp c_28
            replace hf := ifp c_28 hf
            exact hJK_23 w_n_26 hw_n_26 (ob_r hf hk34) _ _ hP_15 hD_15 hS_15 _ (lv_sub hl [0, 1, 2] rfl)
          · have c_28 := (fun q9 => c_28 (((zv_le (iI_t (show R32 (64) by decide)) (iI_t hw_n_26))).mpr q9))
            replace hf := ifn c_28 hf
            refine lv_lload_n hx hb d_Mo_counted64_40 rfl (lv_at hl 1 rfl) ?_
            refine lv_iload_n hx hb d_Mo_counted64_41 rfl (lv_at hl 2 rfl) ?_
            refine lv_lshr hx hb d_Mo_counted64_42 rfl ?_
            refine lv_lconst (v := 1) hx hb d_Mo_counted64_43 (by decide) ?_
            refine lv_land hx hb d_Mo_counted64_44 ?_
            refine lv_lconst (v := 0) hx hb d_Mo_counted64_45 (by decide) ?_
            refine W.lcmp hx hb d_Mo_counted64_46 ?_
            refine lv_if_ne (tgt := 82) hx hb d_Mo_counted64_47 (by decide) (fun c_29 => ?_) (fun c_29 => ?_)
            · have c_29 := (fun q9 => c_29 ((lc_eq).mpr q9))
              replace hf := ifn c_29 hf
              exact hJK_23 w_n_26 hw_n_26 (ob_r hf hk34) _ _ hP_15 hD_15 hS_15 _ (lv_sub hl [0, 1, 2] rfl)
            · have c_29 := (lc_eq).mp c_29
              replace hf := ifp c_29 hf
              replace hf := grd hnb hf
              obtain ⟨g_30, hf⟩ := hf
              refine lv_iinc (v := iI (w_n_26 + 1)) (lv' := [(3, .int (iI (w_n_26 + 1))), (0, .int (iI v_k)), (1, .long v_v)]) hx hb d_Mo_counted64_50 hl (k := 2) rfl (iI_add _ 1) (by decide) rfl (fun ls hl => ?_)
              refine lv_goto (tgt := 34) hx hb d_Mo_counted64_53 (by decide) ?_
              exact ih_34 (w_n_26 + 1) g_30 _ hf hk34 _ _ hP_15 hD_15 hS_15 _ (lv_sub hl [1, 2, 0] rfl)
      exact loop_34 fu 0 (show R32 (0) by decide) _ rfl hf _ _ hP hD hS _ (lv_sub hl [1, 2, 0] rfl)
  · have c_9 := ((zv_eq (iI_t hv_k) (iI_t (show R32 (103) by decide)))).mp c_9
    replace hf := ifp c_9 hf
    refine obG hf (fun K_33 hK_33 hf => ?_)
    have hJK_33 : ∀ (y_35 : Int), R32 y_35 → K_33 y_35 = R9 → ∀ (H : Heap) (locs : List Loc), (fun w9 => va_P G classes w9 H → va_D A w9 → va_S A s.heap H locs → ∀ (ls : Array Slot), lv_has ls 5 [(0, .int (iI v_k)), (1, .long v_v), (3, .int (iI y_35))] → W p l e (headSpec (wx y_Mo_counted64 b_Mo_counted64 5 (some .long)) { frames := 0, cells := 0, slots := 0, locals := 0 }).room s m ([.int (iI v_k), .long v_v] : List Value).toArray below meth c H locs 0 0 (MX below (XQ G classes A (pq_Mo_counted64 R9)) ([.int (iI v_k), .long v_v] : List Value).toArray s 0 0 A) (F0 m 82 ls [])) [] := by
      intro y_35 hy_35 hf H_16 locs_16 hP_16 hD_16 hS_16 ls hl
      clear hS hD hP
      replace hf := (congrFun hK_33 y_35).symm.trans hf
      clear hK_33
      exact hJK_2 y_35 hy_35 hf _ _ hP_16 hD_16 hS_16 _ (lv_sub hl [0, 1, 2] rfl)
    clear hK_33
    have loop_8 : ∀ (n_31 : Nat) (w_n_36 : Int), R32 w_n_36 → ∀ (R_37 : Out Empty (Int)), L8_Mo_counted64 fu v_v n_31 w_n_36 = R_37 → obind R_37 K_33 = R9 → ∀ (H : Heap) (locs : List Loc), (fun w9 => va_P G classes w9 H → va_D A w9 → va_S A s.heap H locs → ∀ (ls : Array Slot), lv_has ls 5 [(0, .int (iI v_k)), (1, .long v_v), (3, .int (iI w_n_36))] → W p l e (headSpec (wx y_Mo_counted64 b_Mo_counted64 5 (some .long)) { frames := 0, cells := 0, slots := 0, locals := 0 }).room s m ([.int (iI v_k), .long v_v] : List Value).toArray below meth c H locs 0 0 (MX below (XQ G classes A (pq_Mo_counted64 R9)) ([.int (iI v_k), .long v_v] : List Value).toArray s 0 0 A) (F0 m 8 ls [])) [] := by
      intro n_31
      induction n_31 with
      | zero => intro w_n_36  hw_n_36 R_37 hf hk8; subst hf; exact absurd hk8.symm hnb
      | succ n_31 ih_8 =>
        intro w_n_36  hw_n_36 R_37 hf hk8 H_17 locs_17 hP_17 hD_17 hS_17 ls hl
        clear hS hD hP
        have hnb : R_37 ≠ .bad := ob_nb hnb hk8
        rw [L8_Mo_counted64.eq_2] at hf
        refine lv_iload_n hx hb d_Mo_counted64_8 rfl (lv_at hl 2 rfl) ?_
        refine lv_bipush (v := iI 64) hx hb d_Mo_counted64_9 (by decide) ?_
        refine lv_icmp_ge (tgt := 82) hx hb d_Mo_counted64_11 (by decide) (fun c_38 => ?_) (fun c_38 => ?_)
        · have c_38 := ((zv_le (iI_t (show R32 (64) by decide)) (iI_t hw_n_36))).mp c_38
          replace hf := ifp c_38 hf
          exact hJK_33 w_n_36 hw_n_36 (ob_r hf hk8) _ _ hP_17 hD_17 hS_17 _ (lv_sub hl [0, 1, 2] rfl)
        · have c_38 := (fun q9 => c_38 (((zv_le (iI_t (show R32 (64) by decide)) (iI_t hw_n_36))).mpr q9))
          replace hf := ifn c_38 hf
          refine lv_lload_n hx hb d_Mo_counted64_14 rfl (lv_at hl 1 rfl) ?_
          refine lv_iload_n hx hb d_Mo_counted64_15 rfl (lv_at hl 2 rfl) ?_
          refine lv_lshl hx hb d_Mo_counted64_16 rfl ?_
          refine lv_lconst (v := 0) hx hb d_Mo_counted64_17 (by decide) ?_
          refine W.lcmp hx hb d_Mo_counted64_18 ?_
          refine lv_if_lt (tgt := 82) hx hb d_Mo_counted64_19 (by decide) (fun c_39 => ?_) (fun c_39 => ?_)
          · have c_39 := (lc_lt).mp c_39
            replace hf := ifp c_39 hf
            exact hJK_33 w_n_36 hw_n_36 (ob_r hf hk8) _ _ hP_17 hD_17 hS_17 _ (lv_sub hl [0, 1, 2] rfl)
          · have c_39 := (fun q9 => c_39 ((lc_lt).mpr q9))
            replace hf := ifn c_39 hf
            replace hf := grd hnb hf
            obtain ⟨g_40, hf⟩ := hf
            refine lv_iinc (v := iI (w_n_36 + 1)) (lv' := [(3, .int (iI (w_n_36 + 1))), (0, .int (iI v_k)), (1, .long v_v)]) hx hb d_Mo_counted64_22 hl (k := 2) rfl (iI_add _ 1) (by decide) rfl (fun ls hl => ?_)
            refine lv_goto (tgt := 8) hx hb d_Mo_counted64_25 (by decide) ?_
            exact ih_8 (w_n_36 + 1) g_40 _ hf hk8 _ _ hP_17 hD_17 hS_17 _ (lv_sub hl [1, 2, 0] rfl)
    exact loop_8 fu 0 (show R32 (0) by decide) _ rfl hf _ _ hP hD hS _ (lv_sub hl [1, 2, 0] rfl)
set_option maxRecDepth 100000 in
abbrev pq_Mo_compared (R9 : Out Empty (Int64)) := (fun (o : Outcome) (w1 : va_W) => ozp R9 (fun x9 => (True) ∧ o = .returned (some (.long x9)) ∧ w1 = []) (fun _ => False))
set_option maxHeartbeats 8000000 in
set_option maxRecDepth 100000 in
theorem k_Mo_compared (l : Launch) (htr : l.stackTraces = false) (G : va_G) (cB cI cJ cZ cG : ClassId) (v_k : Int) (v_x : Int64) (v_y : Int64) (v_small : Bool) (hv_k : R32 v_k) (R9 : Out Empty (Int64)) (hf : f_Mo_compared v_k v_x v_y v_small = R9) (hnb : R9 ≠ .bad) (sz : Nat) : MetX l y_Mo_compared (wx y_Mo_compared b_Mo_compared 12 (some .long)) { frames := 0, cells := 0, slots := 0, locals := 0 } (XP G classes (xtys cB cI cJ cZ cG) xE [.int (iI v_k), .long v_x, .long v_y, .int (bI v_small)] [] sz) (XQ G classes (va_A [] sz) (fun o w1 => ozp R9 (fun x9 => (True) ∧ o = .returned (some (.long x9)) ∧ w1 = []) (fun _ => False))) 0 0 (va_A [] sz) := by
  refine ex_ofW (cc := b_Mo_compared) (maxL := 12) (ret := (some .long)) (by decide) rfl ?_
  intro p e s m args below meth c s₁ B hml hno hv
  obtain ⟨rfl, hsz, hP, hK, hD0, hE⟩ := hv
  have hx := B.exec
  have hb := B.bytes
  have hr := B.returns
  have hts : ∀ w ∈ lw_good, w.before _ s = true := fun w h => atoms_spec (ws := wx y_Mo_compared b_Mo_compared 12 (some .long)) B.pre w (List.mem_cons_of_mem _ h)
  have hown : s.vm.findClass R_Mo = some m.cls := findClass_of_methodNamed B.named
  have hlocks := B.notSynchronized
  subst hsz
  have hNS := xx_nostat hP
  have hD := hD0.self (sz := s.heap.size)
  generalize hAe : va_A [] s.heap.size = A at hD hE hNS ⊢
  have hA : ∀ q : Nat, s.heap.size ≤ q → A q := fun q h => by rw [← hAe]; exact Or.inr h
  have hS : va_S A s.heap s.heap [] := va_S.rf
  have hl := lv_entry ([.int (iI v_k), .long v_x, .long v_y, .int (bI v_small)]) (n := 12) (Nat.le_of_ble_eq_true rfl)
  rw [lg_entry_eq]
  generalize (lg_sl ([.int (iI v_k), .long v_x, .long v_y, .int (bI v_small)]) ++ List.replicate (12 - (lg_sl ([.int (iI v_k), .long v_x, .long v_y, .int (bI v_small)])).length) Slot.unset).toArray = ls at hl ⊢
  have hl : lv_has ls 12 [(0, .int (iI v_k)), (1, .long v_x), (3, .long v_y), (5, .int (bI v_small))] := hl
  unfold f_Mo_compared at hf
  refine lv_iload_n hx hb d_Mo_compared_0 rfl (lv_at hl 0 rfl) ?_
  refine lv_bipush (v := iI 73) hx hb d_Mo_compared_1 (by decide) ?_
  refine jpE hf (fun K_2 hK_2 hf9 => ?_)
  replace hf := hf9
  clear hf9
  have hJK_2 : ∀ (y_1 : Bool), True → K_2 y_1 = R9 → ∀ (H : Heap) (locs : List Loc), (fun w9 => va_P G classes w9 H → va_D A w9 → va_S A s.heap H locs → ∀ (ls : Array Slot), lv_has ls 12 [(0, .int (iI v_k)), (1, .long v_x), (3, .long v_y), (5, .int (bI v_small))] → W p l e (headSpec (wx y_Mo_compared b_Mo_compared 12 (some .long)) { frames := 0, cells := 0, slots := 0, locals := 0 }).room s m ([.int (iI v_k), .long v_x, .long v_y, .int (bI v_small)] : List Value).toArray below meth c H locs 0 0 (MX below (XQ G classes A (pq_Mo_compared R9)) ([.int (iI v_k), .long v_x, .long v_y, .int (bI v_small)] : List Value).toArray s 0 0 A) (F0 m 29 ls [.int (bI y_1)])) [] := by
    intro y_1 hy_1 hf H_16 locs_16 hP_16 hD_16 hS_16 ls hl
    clear hS hD hP
    replace hf := (congrFun hK_2 y_1).symm.trans hf
    clear hK_2
    refine lv_istore (lv' := [(6, .int (bI y_1)), (0, .int (iI v_k)), (1, .long v_x), (3, .long v_y), (5, .int (bI v_small))]) hx hb d_Mo_compared_29 hl (by decide) rfl (fun ls hl => ?_)
    refine lv_iload hx hb d_Mo_compared_31 (lv_at hl 0 rfl) ?_
    refine jpE hf (fun K_4 hK_4 hf9 => ?_)
    replace hf := hf9
    clear hf9
    have hJK_4 : ∀ (y_3 : Int64), True → K_4 y_3 = R9 → ∀ (H_16 : Heap) (locs_16 : List Loc), (fun w9 => va_P G classes w9 H_16 → va_D A w9 → va_S A s.heap H_16 locs_16 → ∀ (ls : Array Slot), lv_has ls 12 [(0, .int (iI v_k)), (1, .long v_x), (3, .long v_y), (5, .int (bI v_small)), (6, .int (bI y_1))] → W p l e (headSpec (wx y_Mo_compared b_Mo_compared 12 (some .long)) { frames := 0, cells := 0, slots := 0, locals := 0 }).room s m ([.int (iI v_k), .long v_x, .long v_y, .int (bI v_small)] : List Value).toArray below meth c H_16 locs_16 0 0 (MX below (XQ G classes A (pq_Mo_compared R9)) ([.int (iI v_k), .long v_x, .long v_y, .int (bI v_small)] : List Value).toArray s 0 0 A) (F0 m 45 ls [.long y_3])) [] := by
      intro y_3 hy_3 hf H_24 locs_24 hP_24 hD_24 hS_24 ls hl
      clear hS_16 hD_16 hP_16
      replace hf := (congrFun hK_4 y_3).symm.trans hf
      clear hK_4
      refine lv_lstore (lv' := [(7, .long y_3), (0, .int (iI v_k)), (1, .long v_x), (3, .long v_y), (5, .int (bI v_small)), (6, .int (bI y_1))]) hx hb d_Mo_compared_45 hl (by decide) rfl (fun ls hl => ?_)
      refine lv_iload hx hb d_Mo_compared_47 (lv_at hl 5 rfl) ?_
      refine jpE hf (fun K_6 hK_6 hf9 => ?_)
      replace hf := hf9
      clear hf9
      have hJK_6 : ∀ (y_5 : Int64), True → K_6 y_5 = R9 → ∀ (H_24 : Heap) (locs_24 : List Loc), (fun w9 => va_P G classes w9 H_24 → va_D A w9 → va_S A s.heap H_24 locs_24 → ∀ (ls : Array Slot), lv_has ls 12 [(0, .int (iI v_k)), (1, .long v_x), (3, .long v_y), (5, .int (bI v_small)), (6, .int (bI y_1)), (7, .long y_3)] → W p l e (headSpec (wx y_Mo_compared b_Mo_compared 12 (some .long)) { frames := 0, cells := 0, slots := 0, locals := 0 }).room s m ([.int (iI v_k), .long v_x, .long v_y, .int (bI v_small)] : List Value).toArray below meth c H_24 locs_24 0 0 (MX below (XQ G classes A (pq_Mo_compared R9)) ([.int (iI v_k), .long v_x, .long v_y, .int (bI v_small)] : List Value).toArray s 0 0 A) (F0 m 61 ls [.long y_5])) [] := by
        intro y_5 hy_5 hf H_28 locs_28 hP_28 hD_28 hS_28 ls hl
        clear hS_24 hD_24 hP_24
        replace hf := (congrFun hK_6 y_5).symm.trans hf
        clear hK_6
        refine lv_lstore (lv' := [(9, .long y_5), (0, .int (iI v_k)), (1, .long v_x), (3, .long v_y), (5, .int (bI v_small)), (6, .int (bI y_1)), (7, .long y_3)]) hx hb d_Mo_compared_61 hl (by decide) rfl (fun ls hl => ?_)
        refine lv_iload_n hx hb d_Mo_compared_63 rfl (lv_at hl 1 rfl) ?_
        refine lv_bipush (v := iI 70) hx hb d_Mo_compared_64 (by decide) ?_
        refine jpE hf (fun K_8 hK_8 hf9 => ?_)
        replace hf := hf9
        clear hf9
        have hJK_8 : ∀ (y_7 : Bool), True → K_8 y_7 = R9 → ∀ (H_28 : Heap) (locs_28 : List Loc), (fun w9 => va_P G classes w9 H_28 → va_D A w9 → va_S A s.heap H_28 locs_28 → ∀ (ls : Array Slot), lv_has ls 12 [(0, .int (iI v_k)), (1, .long v_x), (3, .long v_y), (5, .int (bI v_small)), (6, .int (bI y_1)), (7, .long y_3), (9, .long y_5)] → W p l e (headSpec (wx y_Mo_compared b_Mo_compared 12 (some .long)) { frames := 0, cells := 0, slots := 0, locals := 0 }).room s m ([.int (iI v_k), .long v_x, .long v_y, .int (bI v_small)] : List Value).toArray below meth c H_28 locs_28 0 0 (MX below (XQ G classes A (pq_Mo_compared R9)) ([.int (iI v_k), .long v_x, .long v_y, .int (bI v_small)] : List Value).toArray s 0 0 A) (F0 m 186 ls [.int (bI y_7)])) [] := by
          intro y_7 hy_7 hf H_30 locs_30 hP_30 hD_30 hS_30 ls hl
          clear hS_28 hD_28 hP_28
          replace hf := (congrFun hK_8 y_7).symm.trans hf
          clear hK_8
          refine lv_istore (lv' := [(11, .int (bI y_7)), (0, .int (iI v_k)), (1, .long v_x), (3, .long v_y), (5, .int (bI v_small)), (6, .int (bI y_1)), (7, .long y_3), (9, .long y_5)]) hx hb d_Mo_compared_186 hl (by decide) rfl (fun ls hl => ?_)
          refine lv_iload hx hb d_Mo_compared_188 (lv_at hl 0 rfl) ?_
          refine jpE hf (fun K_10 hK_10 hf9 => ?_)
          replace hf := hf9
          clear hf9
          have hJK_10 : ∀ (y_9 : Int64), True → K_10 y_9 = R9 → ∀ (H_30 : Heap) (locs_30 : List Loc), (fun w9 => va_P G classes w9 H_30 → va_D A w9 → va_S A s.heap H_30 locs_30 → ∀ (ls : Array Slot), lv_has ls 12 [(0, .int (iI v_k)), (1, .long v_x), (3, .long v_y), (5, .int (bI v_small)), (6, .int (bI y_1)), (7, .long y_3), (9, .long y_5), (11, .int (bI y_7))] → W p l e (headSpec (wx y_Mo_compared b_Mo_compared 12 (some .long)) { frames := 0, cells := 0, slots := 0, locals := 0 }).room s m ([.int (iI v_k), .long v_x, .long v_y, .int (bI v_small)] : List Value).toArray below meth c H_30 locs_30 0 0 (MX below (XQ G classes A (pq_Mo_compared R9)) ([.int (iI v_k), .long v_x, .long v_y, .int (bI v_small)] : List Value).toArray s 0 0 A) (F0 m 198 ls [.long y_9])) [] := by
            intro y_9 hy_9 hf H_31 locs_31 hP_31 hD_31 hS_31 ls hl
            clear hS_30 hD_30 hP_30
            replace hf := (congrFun hK_10 y_9).symm.trans hf
            clear hK_10
            exact ex_W (fun _ h => ex_mq h) (W.lret (v := y_9) hx hb hr (fun t ht hW => ⟨⟨_, ozr hf ⟨trivial, rfl, rfl⟩, by rw [ht]; exact hP_31, hD_31⟩, hS_31.F ht⟩) hS_31.2.2 d_Mo_compared_198)
          clear hK_10
          refine lv_if_eq (tgt := 197) hx hb d_Mo_compared_190 (by decide) (fun c_11 => ?_) (fun c_11 => ?_)
          · have c_11 := (zb_f c_11)
            replace hf := ifn c_11 hf
            refine lv_lconst (v := 0) hx hb d_Mo_compared_197 (by decide) ?_
            exact hJK_10 0 trivial hf _ _ hP_30 hD_30 hS_30 _ (lv_sub hl [1, 2, 3, 4, 5, 6, 7, 0] rfl)
          · have c_11 := (zb_t c_11)
            replace hf := ifp c_11 hf
            refine lv_lconst (v := 1) hx hb d_Mo_compared_193 (by decide) ?_
            refine lv_goto (tgt := 198) hx hb d_Mo_compared_194 (by decide) ?_
            exact hJK_10 1 trivial hf _ _ hP_30 hD_30 hS_30 _ (lv_sub hl [1, 2, 3, 4, 5, 6, 7, 0] rfl)
        clear hK_8
        refine lv_icmp_ne (tgt := 85) hx hb d_Mo_compared_66 (by decide) (fun c_12 => ?_) (fun c_12 => ?_)
        · have c_12 := (fun q9 => c_12 (((zv_eq (iI_t hv_k) (iI_t (show R32 (70) by decide)))).mpr q9))
          replace hf := ifn c_12 hf
          refine lv_iload_n hx hb d_Mo_compared_85 rfl (lv_at hl 1 rfl) ?_
          refine lv_bipush (v := iI 71) hx hb d_Mo_compared_86 (by decide) ?_
          refine lv_icmp_ne (tgt := 107) hx hb d_Mo_compared_88 (by decide) (fun c_13 => ?_) (fun c_13 => ?_)
          · have c_13 := (fun q9 => c_13 (((zv_eq (iI_t hv_k) (iI_t (show R32 (71) by decide)))).mpr q9))
            replace hf := ifn c_13 hf
            refine lv_iload_n hx hb d_Mo_compared_107 rfl (lv_at hl 1 rfl) ?_
            refine lv_bipush (v := iI 73) hx hb d_Mo_compared_108 (by decide) ?_
            refine lv_icmp_gt (tgt := 129) hx hb d_Mo_compared_110 (by decide) (fun c_14 => ?_) (fun c_14 => ?_)
            · have c_14 := ((zv_lt (iI_t (show R32 (73) by decide)) (iI_t hv_k))).mp c_14
              replace hf := ifp c_14 hf
              refine lv_iload_n hx hb d_Mo_compared_129 rfl (lv_at hl 1 rfl) ?_
              refine lv_bipush (v := iI 75) hx hb d_Mo_compared_130 (by decide) ?_
              refine lv_icmp_gt (tgt := 151) hx hb d_Mo_compared_132 (by decide) (fun c_15 => ?_) (fun c_15 => ?_)
              · have c_15 := ((zv_lt (iI_t (show R32 (75) by decide)) (iI_t hv_k))).mp c_15
                replace hf := ifp c_15 hf
                refine lv_iload_n hx hb d_Mo_compared_151 rfl (lv_at hl 1 rfl) ?_
                refine lv_bipush (v := iI 77) hx hb d_Mo_compared_152 (by decide) ?_
                refine lv_icmp_gt (tgt := 173) hx hb d_Mo_compared_154 (by decide) (fun c_16 => ?_) (fun c_16 => ?_)
                · have c_16 := ((zv_lt (iI_t (show R32 (77) by decide)) (iI_t hv_k))).mp c_16
                  replace hf := ifp c_16 hf
                  refine lv_lload hx hb d_Mo_compared_173 (lv_at hl 6 rfl) ?_
                  refine lv_lload hx hb d_Mo_compared_175 (lv_at hl 0 rfl) ?_
                  refine W.lcmp hx hb d_Mo_compared_177 ?_
                  refine lv_if_lt (tgt := 185) hx hb d_Mo_compared_178 (by decide) (fun c_17 => ?_) (fun c_17 => ?_)
                  · have c_17 := (lc_lt).mp c_17
                    replace hf := ifp c_17 hf
                    refine lv_iconst (v := iI 0) hx hb d_Mo_compared_185 (by decide) ?_
                    refine W.eq (g2 := F0 m 186 ls [.int (bI false)]) (by rfl) ?_
                    exact hJK_8 false trivial hf _ _ hP_28 hD_28 hS_28 _ (lv_sub hl [1, 2, 3, 4, 5, 6, 0] rfl)
                  · have c_17 := (fun q9 => c_17 ((lc_lt).mpr q9))
                    replace hf := ifn c_17 hf
                    refine lv_iconst (v := iI 1) hx hb d_Mo_compared_181 (by decide) ?_
                    refine lv_goto (tgt := 186) hx hb d_Mo_compared_182 (by decide) ?_
                    refine W.eq (g2 := F0 m 186 ls [.int (bI true)]) (by rfl) ?_
                    exact hJK_8 true trivial hf _ _ hP_28 hD_28 hS_28 _ (lv_sub hl [1, 2, 3, 4, 5, 6, 0] rfl)
                · have c_16 := (fun q9 => c_16 (((zv_lt (iI_t (show R32 (77) by decide)) (iI_t hv_k))).mpr q9))
                  replace hf := ifn c_16 hf
                  refine lv_lload hx hb d_Mo_compared_157 (lv_at hl 6 rfl) ?_
                  refine lv_lload hx hb d_Mo_compared_159 (lv_at hl 0 rfl) ?_
                  refine W.lcmp hx hb d_Mo_compared_161 ?_
                  refine lv_if_gt (tgt := 169) hx hb d_Mo_compared_162 (by decide) (fun c_18 => ?_) (fun c_18 => ?_)
                  · have c_18 := (lc_gt).mp c_18
                    replace hf := ifp c_18 hf
                    refine lv_iconst (v := iI 0) hx hb d_Mo_compared_169 (by decide) ?_
                    refine lv_goto (tgt := 186) hx hb d_Mo_compared_170 (by decide) ?_
                    refine W.eq (g2 := F0 m 186 ls [.int (bI false)]) (by rfl) ?_
                    exact hJK_8 false trivial hf _ _ hP_28 hD_28 hS_28 _ (lv_sub hl [1, 2, 3, 4, 5, 6, 0] rfl)
                  · have c_18 := (fun q9 => c_18 ((lc_gt).mpr q9))
                    replace hf := ifn c_18 hf
                    refine lv_iconst (v := iI 1) hx hb d_Mo_compared_165 (by decide) ?_
                    refine lv_goto (tgt := 186) hx hb d_Mo_compared_166 (by decide) ?_
                    refine W.eq (g2 := F0 m 186 ls [.int (bI true)]) (by rfl) ?_
                    exact hJK_8 true trivial hf _ _ hP_28 hD_28 hS_28 _ (lv_sub hl [1, 2, 3, 4, 5, 6, 0] rfl)
              · have c_15 := (fun q9 => c_15 (((zv_lt (iI_t (show R32 (75) by decide)) (iI_t hv_k))).mpr q9))
                replace hf := ifn c_15 hf
                refine lv_lload hx hb d_Mo_compared_135 (lv_at hl 6 rfl) ?_
                refine lv_lload hx hb d_Mo_compared_137 (lv_at hl 0 rfl) ?_
                refine W.lcmp hx hb d_Mo_compared_139 ?_
                refine lv_if_le (tgt := 147) hx hb d_Mo_compared_140 (by decide) (fun c_19 => ?_) (fun c_19 => ?_)
                · have c_19 := (lc_le).mp c_19
                  replace hf := ifp c_19 hf
                  refine lv_iconst (v := iI 0) hx hb d_Mo_compared_147 (by decide) ?_
                  refine lv_goto (tgt := 186) hx hb d_Mo_compared_148 (by decide) ?_
                  refine W.eq (g2 := F0 m 186 ls [.int (bI false)]) (by rfl) ?_
                  exact hJK_8 false trivial hf _ _ hP_28 hD_28 hS_28 _ (lv_sub hl [1, 2, 3, 4, 5, 6, 0] rfl)
                · have c_19 := (fun q9 => c_19 ((lc_le).mpr q9))
                  replace hf := ifn c_19 hf
                  refine lv_iconst (v := iI 1) hx hb d_Mo_compared_143 (by decide) ?_
                  refine lv_goto (tgt := 186) hx hb d_Mo_compared_144 (by decide) ?_
                  refine W.eq (g2 := F0 m 186 ls [.int (bI true)]) (by rfl) ?_
                  exact hJK_8 true trivial hf _ _ hP_28 hD_28 hS_28 _ (lv_sub hl [1, 2, 3, 4, 5, 6, 0] rfl)
            · have c_14 := (fun q9 => c_14 (((zv_lt (iI_t (show R32 (73) by decide)) (iI_t hv_k))).mpr q9))
              replace hf := ifn c_14 hf
              refine lv_lload hx hb d_Mo_compared_113 (lv_at hl 6 rfl) ?_
              refine lv_lload hx hb d_Mo_compared_115 (lv_at hl 0 rfl) ?_
              refine W.lcmp hx hb d_Mo_compared_117 ?_
              refine lv_if_ge (tgt := 125) hx hb d_Mo_compared_118 (by decide) (fun c_20 => ?_) (fun c_20 => ?_)
              · have c_20 := (lc_ge).mp c_20
                replace hf := ifp c_20 hf
                refine lv_iconst (v := iI 0) hx hb d_Mo_compared_125 (by decide) ?_
                refine lv_goto (tgt := 186) hx hb d_Mo_compared_126 (by decide) ?_
                refine W.eq (g2 := F0 m 186 ls [.int (bI false)]) (by rfl) ?_
                exact hJK_8 false trivial hf _ _ hP_28 hD_28 hS_28 _ (lv_sub hl [1, 2, 3, 4, 5, 6, 0] rfl)
              · have c_20 := (fun q9 => c_20 ((lc_ge).mpr q9))
                replace hf := ifn c_20 hf
                refine lv_iconst (v := iI 1) hx hb d_Mo_compared_121 (by decide) ?_
                refine lv_goto (tgt := 186) hx hb d_Mo_compared_122 (by decide) ?_
                refine W.eq (g2 := F0 m 186 ls [.int (bI true)]) (by rfl) ?_
                exact hJK_8 true trivial hf _ _ hP_28 hD_28 hS_28 _ (lv_sub hl [1, 2, 3, 4, 5, 6, 0] rfl)
          · have c_13 := ((zv_eq (iI_t hv_k) (iI_t (show R32 (71) by decide)))).mp c_13
            replace hf := ifp c_13 hf
            refine lv_lload hx hb d_Mo_compared_91 (lv_at hl 6 rfl) ?_
            refine lv_lload hx hb d_Mo_compared_93 (lv_at hl 0 rfl) ?_
            refine W.lcmp hx hb d_Mo_compared_95 ?_
            refine lv_if_eq (tgt := 103) hx hb d_Mo_compared_96 (by decide) (fun c_21 => ?_) (fun c_21 => ?_)
            · have c_21 := (lc_eq).mp c_21
              replace hf := ifp c_21 hf
              refine lv_iconst (v := iI 0) hx hb d_Mo_compared_103 (by decide) ?_
              refine lv_goto (tgt := 186) hx hb d_Mo_compared_104 (by decide) ?_
              refine W.eq (g2 := F0 m 186 ls [.int (bI false)]) (by rfl) ?_
              exact hJK_8 false trivial hf _ _ hP_28 hD_28 hS_28 _ (lv_sub hl [1, 2, 3, 4, 5, 6, 0] rfl)
            · have c_21 := (fun q9 => c_21 ((lc_eq).mpr q9))
              replace hf := ifn c_21 hf
              refine lv_iconst (v := iI 1) hx hb d_Mo_compared_99 (by decide) ?_
              refine lv_goto (tgt := 186) hx hb d_Mo_compared_100 (by decide) ?_
              refine W.eq (g2 := F0 m 186 ls [.int (bI true)]) (by rfl) ?_
              exact hJK_8 true trivial hf _ _ hP_28 hD_28 hS_28 _ (lv_sub hl [1, 2, 3, 4, 5, 6, 0] rfl)
        · have c_12 := ((zv_eq (iI_t hv_k) (iI_t (show R32 (70) by decide)))).mp c_12
          replace hf := ifp c_12 hf
          refine lv_lload hx hb d_Mo_compared_69 (lv_at hl 6 rfl) ?_
          refine lv_lload hx hb d_Mo_compared_71 (lv_at hl 0 rfl) ?_
          refine W.lcmp hx hb d_Mo_compared_73 ?_
          refine lv_if_ne (tgt := 81) hx hb d_Mo_compared_74 (by decide) (fun c_22 => ?_) (fun c_22 => ?_)
          · have c_22 := (fun q9 => c_22 ((lc_eq).mpr q9))
            replace hf := ifn c_22 hf
            refine lv_iconst (v := iI 0) hx hb d_Mo_compared_81 (by decide) ?_
            refine lv_goto (tgt := 186) hx hb d_Mo_compared_82 (by decide) ?_
            refine W.eq (g2 := F0 m 186 ls [.int (bI false)]) (by rfl) ?_
            exact hJK_8 false trivial hf _ _ hP_28 hD_28 hS_28 _ (lv_sub hl [1, 2, 3, 4, 5, 6, 0] rfl)
          · have c_22 := (lc_eq).mp c_22
            replace hf := ifp c_22 hf
            refine lv_iconst (v := iI 1) hx hb d_Mo_compared_77 (by decide) ?_
            refine lv_goto (tgt := 186) hx hb d_Mo_compared_78 (by decide) ?_
            refine W.eq (g2 := F0 m 186 ls [.int (bI true)]) (by rfl) ?_
            exact hJK_8 true trivial hf _ _ hP_28 hD_28 hS_28 _ (lv_sub hl [1, 2, 3, 4, 5, 6, 0] rfl)
      clear hK_6
      refine lv_if_eq (tgt := 60) hx hb d_Mo_compared_49 (by decide) (fun c_23 => ?_) (fun c_23 => ?_)
      · have c_23 := (zb_f c_23)
        replace hf := ifn c_23 hf
        refine lv_lload_n hx hb d_Mo_compared_60 rfl (lv_at hl 3 rfl) ?_
        exact hJK_6 v_y trivial hf _ _ hP_24 hD_24 hS_24 _ (lv_sub hl [1, 2, 3, 4, 5, 0] rfl)
      · have c_23 := (zb_t c_23)
        replace hf := ifp c_23 hf
        refine lv_lload_n hx hb d_Mo_compared_52 rfl (lv_at hl 3 rfl) ?_
        refine lv_ldc2 (v := lMin) hx hb hown (hts _ m_1615) d_Mo_compared_53 ?_
        refine lv_ladd hx hb d_Mo_compared_56 ?_
        refine lv_goto (tgt := 61) hx hb d_Mo_compared_57 (by decide) ?_
        exact hJK_6 (v_y + lMin) trivial hf _ _ hP_24 hD_24 hS_24 _ (lv_sub hl [1, 2, 3, 4, 5, 0] rfl)
    clear hK_4
    refine lv_if_eq (tgt := 44) hx hb d_Mo_compared_33 (by decide) (fun c_24 => ?_) (fun c_24 => ?_)
    · have c_24 := (zb_f c_24)
      replace hf := ifn c_24 hf
      refine lv_lload_n hx hb d_Mo_compared_44 rfl (lv_at hl 2 rfl) ?_
      exact hJK_4 v_x trivial hf _ _ hP_16 hD_16 hS_16 _ (lv_sub hl [1, 2, 3, 4, 0] rfl)
    · have c_24 := (zb_t c_24)
      replace hf := ifp c_24 hf
      refine lv_lload_n hx hb d_Mo_compared_36 rfl (lv_at hl 2 rfl) ?_
      refine lv_ldc2 (v := lMin) hx hb hown (hts _ m_1615) d_Mo_compared_37 ?_
      refine lv_ladd hx hb d_Mo_compared_40 ?_
      refine lv_goto (tgt := 45) hx hb d_Mo_compared_41 (by decide) ?_
      exact hJK_4 (v_x + lMin) trivial hf _ _ hP_16 hD_16 hS_16 _ (lv_sub hl [1, 2, 3, 4, 0] rfl)
  clear hK_2
  refine jpE hf (fun K_26 hK_26 hf9 => ?_)
  replace hf := hf9
  clear hf9
  have hJK_26 : ∀ (y_25 : Unit), True → K_26 y_25 = R9 → ∀ (H : Heap) (locs : List Loc), (fun w9 => va_P G classes w9 H → va_D A w9 → va_S A s.heap H locs → ∀ (ls : Array Slot), lv_has ls 12 [(0, .int (iI v_k)), (1, .long v_x), (3, .long v_y), (5, .int (bI v_small))] → W p l e (headSpec (wx y_Mo_compared b_Mo_compared 12 (some .long)) { frames := 0, cells := 0, slots := 0, locals := 0 }).room s m ([.int (iI v_k), .long v_x, .long v_y, .int (bI v_small)] : List Value).toArray below meth c H locs 0 0 (MX below (XQ G classes A (pq_Mo_compared R9)) ([.int (iI v_k), .long v_x, .long v_y, .int (bI v_small)] : List Value).toArray s 0 0 A) (F0 m 24 ls [])) [] := by
    intro y_25 hy_25 hf H_32 locs_32 hP_32 hD_32 hS_32 ls hl
    clear hS hD hP
    replace hf := (congrFun hK_26 y_25).symm.trans hf
    clear hK_26
    refine lv_iconst (v := iI 1) hx hb d_Mo_compared_24 (by decide) ?_
    refine lv_goto (tgt := 29) hx hb d_Mo_compared_25 (by decide) ?_
    refine W.eq (g2 := F0 m 29 ls [.int (bI true)]) (by rfl) ?_
    exact hJK_2 true trivial hf _ _ hP_32 hD_32 hS_32 _ (lv_sub hl [0, 1, 2, 3] rfl)
  clear hK_26
  refine lv_icmp_eq (tgt := 24) hx hb d_Mo_compared_3 (by decide) (fun c_27 => ?_) (fun c_27 => ?_)
  · have c_27 := ((zv_eq (iI_t hv_k) (iI_t (show R32 (73) by decide)))).mp c_27
    replace hf := ifp c_27 hf
    exact hJK_26 () trivial hf _ _ hP hD hS _ (lv_sub hl [0, 1, 2, 3] rfl)
  · have c_27 := (fun q9 => c_27 (((zv_eq (iI_t hv_k) (iI_t (show R32 (73) by decide)))).mpr q9))
    replace hf := ifn c_27 hf
    refine lv_iload_n hx hb d_Mo_compared_6 rfl (lv_at hl 0 rfl) ?_
    refine lv_bipush (v := iI 75) hx hb d_Mo_compared_7 (by decide) ?_
    refine lv_icmp_eq (tgt := 24) hx hb d_Mo_compared_9 (by decide) (fun c_28 => ?_) (fun c_28 => ?_)
    · have c_28 := ((zv_eq (iI_t hv_k) (iI_t (show R32 (75) by decide)))).mp c_28
      replace hf := ifp c_28 hf
      exact hJK_26 () trivial hf _ _ hP hD hS _ (lv_sub hl [0, 1, 2, 3] rfl)
    · have c_28 := (fun q9 => c_28 (((zv_eq (iI_t hv_k) (iI_t (show R32 (75) by decide)))).mpr q9))
      replace hf := ifn c_28 hf
      refine lv_iload_n hx hb d_Mo_compared_12 rfl (lv_at hl 0 rfl) ?_
      refine lv_bipush (v := iI 77) hx hb d_Mo_compared_13 (by decide) ?_
      refine lv_icmp_eq (tgt := 24) hx hb d_Mo_compared_15 (by decide) (fun c_29 => ?_) (fun c_29 => ?_)
      · have c_29 := ((zv_eq (iI_t hv_k) (iI_t (show R32 (77) by decide)))).mp c_29
        replace hf := ifp c_29 hf
        exact hJK_26 () trivial hf _ _ hP hD hS _ (lv_sub hl [0, 1, 2, 3] rfl)
      · have c_29 := (fun q9 => c_29 (((zv_eq (iI_t hv_k) (iI_t (show R32 (77) by decide)))).mpr q9))
        replace hf := ifn c_29 hf
        refine lv_iload_n hx hb d_Mo_compared_18 rfl (lv_at hl 0 rfl) ?_
        refine lv_bipush (v := iI 79) hx hb d_Mo_compared_19 (by decide) ?_
        refine lv_icmp_ne (tgt := 28) hx hb d_Mo_compared_21 (by decide) (fun c_30 => ?_) (fun c_30 => ?_)
        · have c_30 := (fun q9 => c_30 (((zv_eq (iI_t hv_k) (iI_t (show R32 (79) by decide)))).mpr q9))
          replace hf := ifn c_30 hf
          refine lv_iconst (v := iI 0) hx hb d_Mo_compared_28 (by decide) ?_
          refine W.eq (g2 := F0 m 29 ls [.int (bI false)]) (by rfl) ?_
          exact hJK_2 false trivial hf _ _ hP hD hS _ (lv_sub hl [0, 1, 2, 3] rfl)
        · have c_30 := ((zv_eq (iI_t hv_k) (iI_t (show R32 (79) by decide)))).mp c_30
          replace hf := ifp c_30 hf
          exact hJK_26 () trivial hf _ _ hP hD hS _ (lv_sub hl [0, 1, 2, 3] rfl)
set_option maxRecDepth 100000 in
abbrev pq_Mo_over (R9 : Out Empty (Int64)) := (fun (o : Outcome) (w1 : va_W) => ozp R9 (fun x9 => (True) ∧ o = .returned (some (.long x9)) ∧ w1 = []) (fun _ => False))
set_option maxHeartbeats 8000000 in
set_option maxRecDepth 100000 in
theorem k_Mo_over (l : Launch) (htr : l.stackTraces = false) (G : va_G) (cB cI cJ cZ cG : ClassId) (v_a : Int64) (v_b : Int64) (R9 : Out Empty (Int64)) (hf : f_Mo_over v_a v_b = R9) (hnb : R9 ≠ .bad) (sz : Nat) : MetX l y_Mo_over (wx y_Mo_over b_Mo_over 8 (some .long)) { frames := 0, cells := 0, slots := 0, locals := 0 } (XP G classes (xtys cB cI cJ cZ cG) xE [.long v_a, .long v_b] [] sz) (XQ G classes (va_A [] sz) (fun o w1 => ozp R9 (fun x9 => (True) ∧ o = .returned (some (.long x9)) ∧ w1 = []) (fun _ => False))) 0 0 (va_A [] sz) := by
  refine ex_ofW (cc := b_Mo_over) (maxL := 8) (ret := (some .long)) (by decide) rfl ?_
  intro p e s m args below meth c s₁ B hml hno hv
  obtain ⟨rfl, hsz, hP, hK, hD0, hE⟩ := hv
  have hx := B.exec
  have hb := B.bytes
  have hr := B.returns
  have hts : ∀ w ∈ lw_good, w.before _ s = true := fun w h => atoms_spec (ws := wx y_Mo_over b_Mo_over 8 (some .long)) B.pre w (List.mem_cons_of_mem _ h)
  have hown : s.vm.findClass R_Mo = some m.cls := findClass_of_methodNamed B.named
  have hlocks := B.notSynchronized
  subst hsz
  have hNS := xx_nostat hP
  have hD := hD0.self (sz := s.heap.size)
  generalize hAe : va_A [] s.heap.size = A at hD hE hNS ⊢
  have hA : ∀ q : Nat, s.heap.size ≤ q → A q := fun q h => by rw [← hAe]; exact Or.inr h
  have hS : va_S A s.heap s.heap [] := va_S.rf
  have hl := lv_entry ([.long v_a, .long v_b]) (n := 8) (Nat.le_of_ble_eq_true rfl)
  rw [lg_entry_eq]
  generalize (lg_sl ([.long v_a, .long v_b]) ++ List.replicate (8 - (lg_sl ([.long v_a, .long v_b])).length) Slot.unset).toArray = ls at hl ⊢
  have hl : lv_has ls 8 [(0, .long v_a), (2, .long v_b)] := hl
  unfold f_Mo_over at hf
  refine lv_lload_n hx hb d_Mo_over_0 rfl (lv_at hl 1 rfl) ?_
  refine lv_lconst (v := 0) hx hb d_Mo_over_1 (by decide) ?_
  refine W.lcmp hx hb d_Mo_over_2 ?_
  refine lv_if_ge (tgt := 26) hx hb d_Mo_over_3 (by decide) (fun c_1 => ?_) (fun c_1 => ?_)
  · have c_1 := (lc_ge).mp c_1
    replace hf := ifp c_1 hf
    refine lv_lload_n hx hb d_Mo_over_26 rfl (lv_at hl 0 rfl) ?_
    refine lv_lconst (v := 0) hx hb d_Mo_over_27 (by decide) ?_
    refine W.lcmp hx hb d_Mo_over_28 ?_
    refine lv_if_lt (tgt := 36) hx hb d_Mo_over_29 (by decide) (fun c_2 => ?_) (fun c_2 => ?_)
    · have c_2 := (lc_lt).mp c_2
      replace hf := ifp c_2 hf
      refine lv_lload_n hx hb d_Mo_over_36 rfl (lv_at hl 0 rfl) ?_
      refine lv_iconst (v := iI 1) hx hb d_Mo_over_37 (by decide) ?_
      refine lv_lushr hx hb d_Mo_over_38 rfl ?_
      refine lv_lload_n hx hb d_Mo_over_39 rfl (lv_at hl 1 rfl) ?_
      replace hf := grd hnb hf
      obtain ⟨g_3, hf⟩ := hf
      refine lv_ldiv hx hb d_Mo_over_40 g_3 ?_
      refine lv_iconst (v := iI 1) hx hb d_Mo_over_41 (by decide) ?_
      refine lv_lshl hx hb d_Mo_over_42 rfl ?_
      refine lv_lstore (lv' := [(4, .long ((((v_a.toUInt64 >>> ((iI 1).toInt64.toUInt64 &&& Int64.toUInt64 63)).toInt64) / v_b) <<< ((iI 1).toInt64 &&& 63))), (0, .long v_a), (2, .long v_b)]) hx hb d_Mo_over_43 hl (by decide) rfl (fun ls hl => ?_)
      refine lv_lload_n hx hb d_Mo_over_45 rfl (lv_at hl 1 rfl) ?_
      refine lv_lload hx hb d_Mo_over_46 (lv_at hl 0 rfl) ?_
      refine lv_lload_n hx hb d_Mo_over_48 rfl (lv_at hl 2 rfl) ?_
      refine lv_lmul hx hb d_Mo_over_49 ?_
      refine lv_lsub hx hb d_Mo_over_50 ?_
      refine lv_lstore (lv' := [(6, .long (v_a - (((((v_a.toUInt64 >>> ((iI 1).toInt64.toUInt64 &&& Int64.toUInt64 63)).toInt64) / v_b) <<< ((iI 1).toInt64 &&& 63)) * v_b))), (4, .long ((((v_a.toUInt64 >>> ((iI 1).toInt64.toUInt64 &&& Int64.toUInt64 63)).toInt64) / v_b) <<< ((iI 1).toInt64 &&& 63))), (0, .long v_a), (2, .long v_b)]) hx hb d_Mo_over_51 hl (by decide) rfl (fun ls hl => ?_)
      refine lv_lload hx hb d_Mo_over_53 (lv_at hl 1 rfl) ?_
      refine lv_lload hx hb d_Mo_over_55 (lv_at hl 0 rfl) ?_
      refine lv_ldc2 (v := lMin) hx hb hown (hts _ m_1615) d_Mo_over_57 ?_
      refine lv_ladd hx hb d_Mo_over_60 ?_
      refine lv_lload_n hx hb d_Mo_over_61 rfl (lv_at hl 3 rfl) ?_
      refine lv_ldc2 (v := lMin) hx hb hown (hts _ m_1615) d_Mo_over_62 ?_
      refine lv_ladd hx hb d_Mo_over_65 ?_
      refine W.lcmp hx hb d_Mo_over_66 ?_
      refine jpE hf (fun K_5 hK_5 hf9 => ?_)
      replace hf := hf9
      clear hf9
      have hJK_5 : ∀ (y_4 : Int64), True → K_5 y_4 = R9 → ∀ (H : Heap) (locs : List Loc), (fun w9 => va_P G classes w9 H → va_D A w9 → va_S A s.heap H locs → ∀ (ls : Array Slot), lv_has ls 8 [(0, .long v_a), (2, .long v_b), (4, .long ((((v_a.toUInt64 >>> ((iI 1).toInt64.toUInt64 &&& Int64.toUInt64 63)).toInt64) / v_b) <<< ((iI 1).toInt64 &&& 63))), (6, .long (v_a - (((((v_a.toUInt64 >>> ((iI 1).toInt64.toUInt64 &&& Int64.toUInt64 63)).toInt64) / v_b) <<< ((iI 1).toInt64 &&& 63)) * v_b)))] → W p l e (headSpec (wx y_Mo_over b_Mo_over 8 (some .long)) { frames := 0, cells := 0, slots := 0, locals := 0 }).room s m ([.long v_a, .long v_b] : List Value).toArray below meth c H locs 0 0 (MX below (XQ G classes A (pq_Mo_over R9)) ([.long v_a, .long v_b] : List Value).toArray s 0 0 A) (F0 m 75 ls [.long y_4, .long ((((v_a.toUInt64 >>> ((iI 1).toInt64.toUInt64 &&& Int64.toUInt64 63)).toInt64) / v_b) <<< ((iI 1).toInt64 &&& 63))])) [] := by
        intro y_4 hy_4 hf H_1 locs_1 hP_1 hD_1 hS_1 ls hl
        clear hS hD hP
        replace hf := (congrFun hK_5 y_4).symm.trans hf
        clear hK_5
        refine lv_ladd hx hb d_Mo_over_75 ?_
        exact ex_W (fun _ h => ex_mq h) (W.lret (v := ((((v_a.toUInt64 >>> ((iI 1).toInt64.toUInt64 &&& Int64.toUInt64 63)).toInt64) / v_b) <<< ((iI 1).toInt64 &&& 63)) + y_4) hx hb hr (fun t ht hW => ⟨⟨_, ozr hf ⟨trivial, rfl, rfl⟩, by rw [ht]; exact hP_1, hD_1⟩, hS_1.F ht⟩) hS_1.2.2 d_Mo_over_76)
      clear hK_5
      refine lv_if_lt (tgt := 74) hx hb d_Mo_over_67 (by decide) (fun c_6 => ?_) (fun c_6 => ?_)
      · have c_6 := (lc_lt).mp c_6
        replace hf := ifp c_6 hf
        refine lv_lconst (v := 0) hx hb d_Mo_over_74 (by decide) ?_
        exact hJK_5 0 trivial hf _ _ hP hD hS _ (lv_sub hl [2, 3, 1, 0] rfl)
      · have c_6 := (fun q9 => c_6 ((lc_lt).mpr q9))
        replace hf := ifn c_6 hf
        refine lv_lconst (v := 1) hx hb d_Mo_over_70 (by decide) ?_
        refine lv_goto (tgt := 75) hx hb d_Mo_over_71 (by decide) ?_
        exact hJK_5 1 trivial hf _ _ hP hD hS _ (lv_sub hl [2, 3, 1, 0] rfl)
    · have c_2 := (fun q9 => c_2 ((lc_lt).mpr q9))
      replace hf := ifn c_2 hf
      refine lv_lload_n hx hb d_Mo_over_32 rfl (lv_at hl 0 rfl) ?_
      refine lv_lload_n hx hb d_Mo_over_33 rfl (lv_at hl 1 rfl) ?_
      replace hf := grd hnb hf
      obtain ⟨g_7, hf⟩ := hf
      refine lv_ldiv hx hb d_Mo_over_34 g_7 ?_
      exact ex_W (fun _ h => ex_mq h) (W.lret (v := v_a / v_b) hx hb hr (fun t ht hW => ⟨⟨_, ozr hf ⟨trivial, rfl, rfl⟩, by rw [ht]; exact hP, hD⟩, hS.F ht⟩) hS.2.2 d_Mo_over_35)
  · have c_1 := (fun q9 => c_1 ((lc_ge).mpr q9))
    replace hf := ifn c_1 hf
    refine lv_lload_n hx hb d_Mo_over_6 rfl (lv_at hl 0 rfl) ?_
    refine lv_ldc2 (v := lMin) hx hb hown (hts _ m_1615) d_Mo_over_7 ?_
    refine lv_ladd hx hb d_Mo_over_10 ?_
    refine lv_lload_n hx hb d_Mo_over_11 rfl (lv_at hl 1 rfl) ?_
    refine lv_ldc2 (v := lMin) hx hb hown (hts _ m_1615) d_Mo_over_12 ?_
    refine lv_ladd hx hb d_Mo_over_15 ?_
    refine W.lcmp hx hb d_Mo_over_16 ?_
    refine jpE hf (fun K_9 hK_9 hf9 => ?_)
    replace hf := hf9
    clear hf9
    have hJK_9 : ∀ (y_8 : Int64), True → K_9 y_8 = R9 → ∀ (H : Heap) (locs : List Loc), (fun w9 => va_P G classes w9 H → va_D A w9 → va_S A s.heap H locs → ∀ (ls : Array Slot), lv_has ls 8 [(0, .long v_a), (2, .long v_b)] → W p l e (headSpec (wx y_Mo_over b_Mo_over 8 (some .long)) { frames := 0, cells := 0, slots := 0, locals := 0 }).room s m ([.long v_a, .long v_b] : List Value).toArray below meth c H locs 0 0 (MX below (XQ G classes A (pq_Mo_over R9)) ([.long v_a, .long v_b] : List Value).toArray s 0 0 A) (F0 m 25 ls [.long y_8])) [] := by
      intro y_8 hy_8 hf H_2 locs_2 hP_2 hD_2 hS_2 ls hl
      clear hS hD hP
      replace hf := (congrFun hK_9 y_8).symm.trans hf
      clear hK_9
      exact ex_W (fun _ h => ex_mq h) (W.lret (v := y_8) hx hb hr (fun t ht hW => ⟨⟨_, ozr hf ⟨trivial, rfl, rfl⟩, by rw [ht]; exact hP_2, hD_2⟩, hS_2.F ht⟩) hS_2.2.2 d_Mo_over_25)
    clear hK_9
    refine lv_if_lt (tgt := 24) hx hb d_Mo_over_17 (by decide) (fun c_10 => ?_) (fun c_10 => ?_)
    · have c_10 := (lc_lt).mp c_10
      replace hf := ifp c_10 hf
      refine lv_lconst (v := 0) hx hb d_Mo_over_24 (by decide) ?_
      exact hJK_9 0 trivial hf _ _ hP hD hS _ (lv_sub hl [0, 1] rfl)
    · have c_10 := (fun q9 => c_10 ((lc_lt).mpr q9))
      replace hf := ifn c_10 hf
      refine lv_lconst (v := 1) hx hb d_Mo_over_20 (by decide) ?_
      refine lv_goto (tgt := 25) hx hb d_Mo_over_21 (by decide) ?_
      exact hJK_9 1 trivial hf _ _ hP hD hS _ (lv_sub hl [0, 1] rfl)
set_option maxRecDepth 100000 in
abbrev pq_Mo_worked (aRf : Nat) (tA : Value) (tB : Value) (tC : Value) (tD : Value) (tE : Value) (tF : Value) (aMo : Nat) (aMo_magic : Nat) (aM1 : Nat) (aM2 : Nat) (aMm : Nat) (aMo_blocks : Nat) (aMo_stack : Nat) (aMo_heights : Nat) (aMo_labels : Nat) (aMo_outs : Nat) (aMo_kinds : Nat) (aMo_lost : Nat) (aMo_memory : Nat) (aMo_globals : Nat) (aMo_values : Nat) (aMo_frameFunction : Nat) (aMo_frameReturn : Nat) (aMo_frameBase : Nat) (aMo_frameLabels : Nat) (aMo_labelAt : Nat) (aMo_labelHeight : Nat) (aMo_tape : Nat) (aMo_arguments : Nat) (zMc : KMc) (zVt : KVt) (zVo : KVo) (zVf : KVf) (zRg : KRg) (zRs : KRs) (zRr : KRr) (zRl : KRl) (zRq : KRq) (zMi : KMi) (R9 : Out (KRf) (KRf × Int64)) := (fun (o : Outcome) (w1 : va_W) => ozp R9 (fun x9 => (KRf.Ok x9.1) ∧ o = .returned (some (.long x9.2)) ∧ w1 = [(aRf, .inr (12, [tA, tB, tC, tD, tE, tF, .int (iI x9.1.reason)])), (aMo, .inr (10, [.ref aRf, .ref aMo_magic, .ref aM1, .ref aM2, .ref aMm, .int (iI zMc.cursor), .int (iI zMc.limit), .ref aMo_blocks, .ref aMo_stack, .int (iI zVt.top), .ref aMo_heights, .ref aMo_labels, .ref aMo_outs, .ref aMo_kinds, .ref aMo_lost, .int (iI zVo.depth), .int (iI zVf.function), .ref aMo_memory, .int (iI zRg.pages), .ref aMo_globals, .ref aMo_values, .int (iI zRs.valueTop), .ref aMo_frameFunction, .ref aMo_frameReturn, .ref aMo_frameBase, .ref aMo_frameLabels, .int (iI zRr.frames), .ref aMo_labelAt, .ref aMo_labelHeight, .int (iI zRl.labelTop), .int (iI zRq.steps), .ref aMo_tape, .int (iI zMi.taped), .int (bI zMi.there), .int (iI zMi.reason), .ref aMo_arguments, .int (iI zMi.argumentCount), .int (iI zMi.code)]))]) (fun t9 => (KRf.Ok t9) ∧ o = .threw aRf ∧ w1 = [(aRf, .inr (12, [tA, tB, tC, tD, tE, tF, .int (iI t9.reason)])), (aMo, .inr (10, [.ref aRf, .ref aMo_magic, .ref aM1, .ref aM2, .ref aMm, .int (iI zMc.cursor), .int (iI zMc.limit), .ref aMo_blocks, .ref aMo_stack, .int (iI zVt.top), .ref aMo_heights, .ref aMo_labels, .ref aMo_outs, .ref aMo_kinds, .ref aMo_lost, .int (iI zVo.depth), .int (iI zVf.function), .ref aMo_memory, .int (iI zRg.pages), .ref aMo_globals, .ref aMo_values, .int (iI zRs.valueTop), .ref aMo_frameFunction, .ref aMo_frameReturn, .ref aMo_frameBase, .ref aMo_frameLabels, .int (iI zRr.frames), .ref aMo_labelAt, .ref aMo_labelHeight, .int (iI zRl.labelTop), .int (iI zRq.steps), .ref aMo_tape, .int (iI zMi.taped), .int (bI zMi.there), .int (iI zMi.reason), .ref aMo_arguments, .int (iI zMi.argumentCount), .int (iI zMi.code)]))]))
set_option maxHeartbeats 8000000 in
set_option maxRecDepth 100000 in
theorem k_Mo_worked (l : Launch) (htr : l.stackTraces = false) (G : va_G) (cB cI cJ cZ cG : ClassId) (aRf : Nat) (tA : Value) (tB : Value) (tC : Value) (tD : Value) (tE : Value) (tF : Value) (aMo : Nat) (aMo_magic : Nat) (aM1 : Nat) (aM2 : Nat) (aMm : Nat) (aMo_blocks : Nat) (aMo_stack : Nat) (aMo_heights : Nat) (aMo_labels : Nat) (aMo_outs : Nat) (aMo_kinds : Nat) (aMo_lost : Nat) (aMo_memory : Nat) (aMo_globals : Nat) (aMo_values : Nat) (aMo_frameFunction : Nat) (aMo_frameReturn : Nat) (aMo_frameBase : Nat) (aMo_frameLabels : Nat) (aMo_labelAt : Nat) (aMo_labelHeight : Nat) (aMo_tape : Nat) (aMo_arguments : Nat) (zRf : KRf) (zMc : KMc) (zVt : KVt) (zVo : KVo) (zVf : KVf) (zRg : KRg) (zRs : KRs) (zRr : KRr) (zRl : KRl) (zRq : KRq) (zMi : KMi) (hzRf : KRf.Ok zRf) (hzMc : KMc.Ok zMc) (hzVt : KVt.Ok zVt) (hzVo : KVo.Ok zVo) (hzVf : KVf.Ok zVf) (hzRg : KRg.Ok zRg) (hzRs : KRs.Ok zRs) (hzRr : KRr.Ok zRr) (hzRl : KRl.Ok zRl) (hzRq : KRq.Ok zRq) (hzMi : KMi.Ok zMi) (v_k : Int) (v_a : Int64) (v_b : Int64) (v_small : Bool) (hv_k : R32 v_k) (R9 : Out (KRf) (KRf × Int64)) (hf : f_Mo_worked zRf v_k v_a v_b v_small = R9) (hnb : R9 ≠ .bad) (sz : Nat) : MetX l y_Mo_worked (wx y_Mo_worked b_Mo_worked 13 (some .long)) { frames := 2, cells := 0, slots := 0, locals := 43 } (XP G classes (xtys cB cI cJ cZ cG) xE [.ref aMo, .int (iI v_k), .long v_a, .long v_b, .int (bI v_small)] [(aRf, .inr (12, [tA, tB, tC, tD, tE, tF, .int (iI zRf.reason)])), (aMo, .inr (10, [.ref aRf, .ref aMo_magic, .ref aM1, .ref aM2, .ref aMm, .int (iI zMc.cursor), .int (iI zMc.limit), .ref aMo_blocks, .ref aMo_stack, .int (iI zVt.top), .ref aMo_heights, .ref aMo_labels, .ref aMo_outs, .ref aMo_kinds, .ref aMo_lost, .int (iI zVo.depth), .int (iI zVf.function), .ref aMo_memory, .int (iI zRg.pages), .ref aMo_globals, .ref aMo_values, .int (iI zRs.valueTop), .ref aMo_frameFunction, .ref aMo_frameReturn, .ref aMo_frameBase, .ref aMo_frameLabels, .int (iI zRr.frames), .ref aMo_labelAt, .ref aMo_labelHeight, .int (iI zRl.labelTop), .int (iI zRq.steps), .ref aMo_tape, .int (iI zMi.taped), .int (bI zMi.there), .int (iI zMi.reason), .ref aMo_arguments, .int (iI zMi.argumentCount), .int (iI zMi.code)]))] sz) (XQ G classes (va_A [(aRf, .inr (12, [tA, tB, tC, tD, tE, tF, .int (iI zRf.reason)])), (aMo, .inr (10, [.ref aRf, .ref aMo_magic, .ref aM1, .ref aM2, .ref aMm, .int (iI zMc.cursor), .int (iI zMc.limit), .ref aMo_blocks, .ref aMo_stack, .int (iI zVt.top), .ref aMo_heights, .ref aMo_labels, .ref aMo_outs, .ref aMo_kinds, .ref aMo_lost, .int (iI zVo.depth), .int (iI zVf.function), .ref aMo_memory, .int (iI zRg.pages), .ref aMo_globals, .ref aMo_values, .int (iI zRs.valueTop), .ref aMo_frameFunction, .ref aMo_frameReturn, .ref aMo_frameBase, .ref aMo_frameLabels, .int (iI zRr.frames), .ref aMo_labelAt, .ref aMo_labelHeight, .int (iI zRl.labelTop), .int (iI zRq.steps), .ref aMo_tape, .int (iI zMi.taped), .int (bI zMi.there), .int (iI zMi.reason), .ref aMo_arguments, .int (iI zMi.argumentCount), .int (iI zMi.code)]))] sz) (fun o w1 => ozp R9 (fun x9 => (KRf.Ok x9.1) ∧ o = .returned (some (.long x9.2)) ∧ w1 = [(aRf, .inr (12, [tA, tB, tC, tD, tE, tF, .int (iI x9.1.reason)])), (aMo, .inr (10, [.ref aRf, .ref aMo_magic, .ref aM1, .ref aM2, .ref aMm, .int (iI zMc.cursor), .int (iI zMc.limit), .ref aMo_blocks, .ref aMo_stack, .int (iI zVt.top), .ref aMo_heights, .ref aMo_labels, .ref aMo_outs, .ref aMo_kinds, .ref aMo_lost, .int (iI zVo.depth), .int (iI zVf.function), .ref aMo_memory, .int (iI zRg.pages), .ref aMo_globals, .ref aMo_values, .int (iI zRs.valueTop), .ref aMo_frameFunction, .ref aMo_frameReturn, .ref aMo_frameBase, .ref aMo_frameLabels, .int (iI zRr.frames), .ref aMo_labelAt, .ref aMo_labelHeight, .int (iI zRl.labelTop), .int (iI zRq.steps), .ref aMo_tape, .int (iI zMi.taped), .int (bI zMi.there), .int (iI zMi.reason), .ref aMo_arguments, .int (iI zMi.argumentCount), .int (iI zMi.code)]))]) (fun t9 => (KRf.Ok t9) ∧ o = .threw aRf ∧ w1 = [(aRf, .inr (12, [tA, tB, tC, tD, tE, tF, .int (iI t9.reason)])), (aMo, .inr (10, [.ref aRf, .ref aMo_magic, .ref aM1, .ref aM2, .ref aMm, .int (iI zMc.cursor), .int (iI zMc.limit), .ref aMo_blocks, .ref aMo_stack, .int (iI zVt.top), .ref aMo_heights, .ref aMo_labels, .ref aMo_outs, .ref aMo_kinds, .ref aMo_lost, .int (iI zVo.depth), .int (iI zVf.function), .ref aMo_memory, .int (iI zRg.pages), .ref aMo_globals, .ref aMo_values, .int (iI zRs.valueTop), .ref aMo_frameFunction, .ref aMo_frameReturn, .ref aMo_frameBase, .ref aMo_frameLabels, .int (iI zRr.frames), .ref aMo_labelAt, .ref aMo_labelHeight, .int (iI zRl.labelTop), .int (iI zRq.steps), .ref aMo_tape, .int (iI zMi.taped), .int (bI zMi.there), .int (iI zMi.reason), .ref aMo_arguments, .int (iI zMi.argumentCount), .int (iI zMi.code)]))]))) 0 0 (va_A [(aRf, .inr (12, [tA, tB, tC, tD, tE, tF, .int (iI zRf.reason)])), (aMo, .inr (10, [.ref aRf, .ref aMo_magic, .ref aM1, .ref aM2, .ref aMm, .int (iI zMc.cursor), .int (iI zMc.limit), .ref aMo_blocks, .ref aMo_stack, .int (iI zVt.top), .ref aMo_heights, .ref aMo_labels, .ref aMo_outs, .ref aMo_kinds, .ref aMo_lost, .int (iI zVo.depth), .int (iI zVf.function), .ref aMo_memory, .int (iI zRg.pages), .ref aMo_globals, .ref aMo_values, .int (iI zRs.valueTop), .ref aMo_frameFunction, .ref aMo_frameReturn, .ref aMo_frameBase, .ref aMo_frameLabels, .int (iI zRr.frames), .ref aMo_labelAt, .ref aMo_labelHeight, .int (iI zRl.labelTop), .int (iI zRq.steps), .ref aMo_tape, .int (iI zMi.taped), .int (bI zMi.there), .int (iI zMi.reason), .ref aMo_arguments, .int (iI zMi.argumentCount), .int (iI zMi.code)]))] sz) := by
  refine ex_ofW (cc := b_Mo_worked) (maxL := 13) (ret := (some .long)) (by decide) rfl ?_
  intro p e s m args below meth c s₁ B hml hno hv
  obtain ⟨rfl, hsz, hP, hK, hD0, hE⟩ := hv
  have hx := B.exec
  have hb := B.bytes
  have hr := B.returns
  have hts : ∀ w ∈ lw_good, w.before _ s = true := fun w h => atoms_spec (ws := wx y_Mo_worked b_Mo_worked 13 (some .long)) B.pre w (List.mem_cons_of_mem _ h)
  have hown : s.vm.findClass R_Mo = some m.cls := findClass_of_methodNamed B.named
  have hlocks := B.notSynchronized
  subst hsz
  have hNS := xx_nostat hP
  have hD := hD0.self (sz := s.heap.size)
  generalize hAe : va_A [(aRf, .inr (12, [tA, tB, tC, tD, tE, tF, .int (iI zRf.reason)])), (aMo, .inr (10, [.ref aRf, .ref aMo_magic, .ref aM1, .ref aM2, .ref aMm, .int (iI zMc.cursor), .int (iI zMc.limit), .ref aMo_blocks, .ref aMo_stack, .int (iI zVt.top), .ref aMo_heights, .ref aMo_labels, .ref aMo_outs, .ref aMo_kinds, .ref aMo_lost, .int (iI zVo.depth), .int (iI zVf.function), .ref aMo_memory, .int (iI zRg.pages), .ref aMo_globals, .ref aMo_values, .int (iI zRs.valueTop), .ref aMo_frameFunction, .ref aMo_frameReturn, .ref aMo_frameBase, .ref aMo_frameLabels, .int (iI zRr.frames), .ref aMo_labelAt, .ref aMo_labelHeight, .int (iI zRl.labelTop), .int (iI zRq.steps), .ref aMo_tape, .int (iI zMi.taped), .int (bI zMi.there), .int (iI zMi.reason), .ref aMo_arguments, .int (iI zMi.argumentCount), .int (iI zMi.code)]))] s.heap.size = A at hD hE hNS ⊢
  have hA : ∀ q : Nat, s.heap.size ≤ q → A q := fun q h => by rw [← hAe]; exact Or.inr h
  have hS : va_S A s.heap s.heap [] := va_S.rf
  have hl := lv_entry ([.ref aMo, .int (iI v_k), .long v_a, .long v_b, .int (bI v_small)]) (n := 13) (Nat.le_of_ble_eq_true rfl)
  rw [lg_entry_eq]
  generalize (lg_sl ([.ref aMo, .int (iI v_k), .long v_a, .long v_b, .int (bI v_small)]) ++ List.replicate (13 - (lg_sl ([.ref aMo, .int (iI v_k), .long v_a, .long v_b, .int (bI v_small)])).length) Slot.unset).toArray = ls at hl ⊢
  have hl : lv_has ls 13 [(0, .ref aMo), (1, .int (iI v_k)), (2, .long v_a), (4, .long v_b), (6, .int (bI v_small))] := hl
  unfold f_Mo_worked at hf
  refine lv_iload hx hb d_Mo_worked_0 (lv_at hl 4 rfl) ?_
  refine jpE hf (fun K_2 hK_2 hf9 => ?_)
  replace hf := hf9
  clear hf9
  have hJK_2 : ∀ (y_1 : Int), R32 y_1 → K_2 y_1 = R9 → ∀ (H : Heap) (locs : List Loc), (fun w9 => va_P G classes w9 H → va_D A w9 → va_S A s.heap H locs → ∀ (ls : Array Slot), lv_has ls 13 [(0, .ref aMo), (1, .int (iI v_k)), (2, .long v_a), (4, .long v_b), (6, .int (bI v_small))] → W p l e (headSpec (wx y_Mo_worked b_Mo_worked 13 (some .long)) { frames := 2, cells := 0, slots := 0, locals := 43 }).room s m ([.ref aMo, .int (iI v_k), .long v_a, .long v_b, .int (bI v_small)] : List Value).toArray below meth c H locs 0 0 (MX below (XQ G classes A (pq_Mo_worked aRf tA tB tC tD tE tF aMo aMo_magic aM1 aM2 aMm aMo_blocks aMo_stack aMo_heights aMo_labels aMo_outs aMo_kinds aMo_lost aMo_memory aMo_globals aMo_values aMo_frameFunction aMo_frameReturn aMo_frameBase aMo_frameLabels aMo_labelAt aMo_labelHeight aMo_tape aMo_arguments zMc zVt zVo zVf zRg zRs zRr zRl zRq zMi R9)) ([.ref aMo, .int (iI v_k), .long v_a, .long v_b, .int (bI v_small)] : List Value).toArray s 0 0 A) (F0 m 12 ls [.int (iI y_1)])) [(aRf, .inr (12, [tA, tB, tC, tD, tE, tF, .int (iI zRf.reason)])), (aMo, .inr (10, [.ref aRf, .ref aMo_magic, .ref aM1, .ref aM2, .ref aMm, .int (iI zMc.cursor), .int (iI zMc.limit), .ref aMo_blocks, .ref aMo_stack, .int (iI zVt.top), .ref aMo_heights, .ref aMo_labels, .ref aMo_outs, .ref aMo_kinds, .ref aMo_lost, .int (iI zVo.depth), .int (iI zVf.function), .ref aMo_memory, .int (iI zRg.pages), .ref aMo_globals, .ref aMo_values, .int (iI zRs.valueTop), .ref aMo_frameFunction, .ref aMo_frameReturn, .ref aMo_frameBase, .ref aMo_frameLabels, .int (iI zRr.frames), .ref aMo_labelAt, .ref aMo_labelHeight, .int (iI zRl.labelTop), .int (iI zRq.steps), .ref aMo_tape, .int (iI zMi.taped), .int (bI zMi.there), .int (iI zMi.reason), .ref aMo_arguments, .int (iI zMi.argumentCount), .int (iI zMi.code)]))] := by
    intro y_1 hy_1 hf H_368 locs_368 hP_368 hD_368 hS_368 ls hl
    clear hS hD hP
    replace hf := (congrFun hK_2 y_1).symm.trans hf
    clear hK_2
    refine lv_istore (lv' := [(7, .int (iI y_1)), (0, .ref aMo), (1, .int (iI v_k)), (2, .long v_a), (4, .long v_b), (6, .int (bI v_small))]) hx hb d_Mo_worked_12 hl (by decide) rfl (fun ls hl => ?_)
    refine lv_lload hx hb d_Mo_worked_14 (lv_at hl 4 rfl) ?_
    refine lv_l2i hx hb d_Mo_worked_16 rfl ?_
    refine lv_iload hx hb d_Mo_worked_17 (lv_at hl 0 rfl) ?_
    refine lv_iconst (v := iI 1) hx hb d_Mo_worked_19 (by decide) ?_
    refine lv_isub hx hb d_Mo_worked_20 ?_
    refine lv_topi (fun x9 e9 => ?_)
    obtain rfl : x9 = iI (y_1 - 1) := e9.trans (iI_sub _ _)
    replace hf := grd hnb hf
    obtain ⟨g_3, hf⟩ := hf
    refine lv_iand hx hb d_Mo_worked_21 ?_
    refine W.eq (g2 := F0 m 22 ls [.int (iI ((v_b.toInt32 &&& (iI (y_1 - 1))).toInt))]) (by rw [← iI_of (v_b.toInt32 &&& (iI (y_1 - 1)))] <;> rfl) ?_
    refine lv_istore (lv' := [(8, .int (iI ((v_b.toInt32 &&& (iI (y_1 - 1))).toInt))), (7, .int (iI y_1)), (0, .ref aMo), (1, .int (iI v_k)), (2, .long v_a), (4, .long v_b), (6, .int (bI v_small))]) hx hb d_Mo_worked_22 hl (by decide) rfl (fun ls hl => ?_)
    refine lv_iload hx hb d_Mo_worked_24 (lv_at hl 6 rfl) ?_
    refine jpE hf (fun K_5 hK_5 hf9 => ?_)
    replace hf := hf9
    clear hf9
    have hJK_5 : ∀ (y_4 : Int64), True → K_5 y_4 = R9 → ∀ (H_368 : Heap) (locs_368 : List Loc), (fun w9 => va_P G classes w9 H_368 → va_D A w9 → va_S A s.heap H_368 locs_368 → ∀ (ls : Array Slot), lv_has ls 13 [(0, .ref aMo), (1, .int (iI v_k)), (2, .long v_a), (4, .long v_b), (6, .int (bI v_small)), (7, .int (iI y_1)), (8, .int (iI ((v_b.toInt32 &&& (iI (y_1 - 1))).toInt)))] → W p l e (headSpec (wx y_Mo_worked b_Mo_worked 13 (some .long)) { frames := 2, cells := 0, slots := 0, locals := 43 }).room s m ([.ref aMo, .int (iI v_k), .long v_a, .long v_b, .int (bI v_small)] : List Value).toArray below meth c H_368 locs_368 0 0 (MX below (XQ G classes A (pq_Mo_worked aRf tA tB tC tD tE tF aMo aMo_magic aM1 aM2 aMm aMo_blocks aMo_stack aMo_heights aMo_labels aMo_outs aMo_kinds aMo_lost aMo_memory aMo_globals aMo_values aMo_frameFunction aMo_frameReturn aMo_frameBase aMo_frameLabels aMo_labelAt aMo_labelHeight aMo_tape aMo_arguments zMc zVt zVo zVf zRg zRs zRr zRl zRq zMi R9)) ([.ref aMo, .int (iI v_k), .long v_a, .long v_b, .int (bI v_small)] : List Value).toArray s 0 0 A) (F0 m 38 ls [.long y_4])) [(aRf, .inr (12, [tA, tB, tC, tD, tE, tF, .int (iI zRf.reason)])), (aMo, .inr (10, [.ref aRf, .ref aMo_magic, .ref aM1, .ref aM2, .ref aMm, .int (iI zMc.cursor), .int (iI zMc.limit), .ref aMo_blocks, .ref aMo_stack, .int (iI zVt.top), .ref aMo_heights, .ref aMo_labels, .ref aMo_outs, .ref aMo_kinds, .ref aMo_lost, .int (iI zVo.depth), .int (iI zVf.function), .ref aMo_memory, .int (iI zRg.pages), .ref aMo_globals, .ref aMo_values, .int (iI zRs.valueTop), .ref aMo_frameFunction, .ref aMo_frameReturn, .ref aMo_frameBase, .ref aMo_frameLabels, .int (iI zRr.frames), .ref aMo_labelAt, .ref aMo_labelHeight, .int (iI zRl.labelTop), .int (iI zRq.steps), .ref aMo_tape, .int (iI zMi.taped), .int (bI zMi.there), .int (iI zMi.reason), .ref aMo_arguments, .int (iI zMi.argumentCount), .int (iI zMi.code)]))] := by
      intro y_4 hy_4 hf H_552 locs_552 hP_552 hD_552 hS_552 ls hl
      clear hS_368 hD_368 hP_368
      replace hf := (congrFun hK_5 y_4).symm.trans hf
      clear hK_5
      refine lv_lstore (lv' := [(9, .long y_4), (0, .ref aMo), (1, .int (iI v_k)), (2, .long v_a), (4, .long v_b), (6, .int (bI v_small)), (7, .int (iI y_1)), (8, .int (iI ((v_b.toInt32 &&& (iI (y_1 - 1))).toInt)))]) hx hb d_Mo_worked_38 hl (by decide) rfl (fun ls hl => ?_)
      refine lv_iload hx hb d_Mo_worked_40 (lv_at hl 5 rfl) ?_
      refine jpE hf (fun K_7 hK_7 hf9 => ?_)
      replace hf := hf9
      clear hf9
      have hJK_7 : ∀ (y_6 : Int64), True → K_7 y_6 = R9 → ∀ (H_552 : Heap) (locs_552 : List Loc), (fun w9 => va_P G classes w9 H_552 → va_D A w9 → va_S A s.heap H_552 locs_552 → ∀ (ls : Array Slot), lv_has ls 13 [(0, .ref aMo), (1, .int (iI v_k)), (2, .long v_a), (4, .long v_b), (6, .int (bI v_small)), (7, .int (iI y_1)), (8, .int (iI ((v_b.toInt32 &&& (iI (y_1 - 1))).toInt))), (9, .long y_4)] → W p l e (headSpec (wx y_Mo_worked b_Mo_worked 13 (some .long)) { frames := 2, cells := 0, slots := 0, locals := 43 }).room s m ([.ref aMo, .int (iI v_k), .long v_a, .long v_b, .int (bI v_small)] : List Value).toArray below meth c H_552 locs_552 0 0 (MX below (XQ G classes A (pq_Mo_worked aRf tA tB tC tD tE tF aMo aMo_magic aM1 aM2 aMm aMo_blocks aMo_stack aMo_heights aMo_labels aMo_outs aMo_kinds aMo_lost aMo_memory aMo_globals aMo_values aMo_frameFunction aMo_frameReturn aMo_frameBase aMo_frameLabels aMo_labelAt aMo_labelHeight aMo_tape aMo_arguments zMc zVt zVo zVf zRg zRs zRr zRl zRq zMi R9)) ([.ref aMo, .int (iI v_k), .long v_a, .long v_b, .int (bI v_small)] : List Value).toArray s 0 0 A) (F0 m 56 ls [.long y_6])) [(aRf, .inr (12, [tA, tB, tC, tD, tE, tF, .int (iI zRf.reason)])), (aMo, .inr (10, [.ref aRf, .ref aMo_magic, .ref aM1, .ref aM2, .ref aMm, .int (iI zMc.cursor), .int (iI zMc.limit), .ref aMo_blocks, .ref aMo_stack, .int (iI zVt.top), .ref aMo_heights, .ref aMo_labels, .ref aMo_outs, .ref aMo_kinds, .ref aMo_lost, .int (iI zVo.depth), .int (iI zVf.function), .ref aMo_memory, .int (iI zRg.pages), .ref aMo_globals, .ref aMo_values, .int (iI zRs.valueTop), .ref aMo_frameFunction, .ref aMo_frameReturn, .ref aMo_frameBase, .ref aMo_frameLabels, .int (iI zRr.frames), .ref aMo_labelAt, .ref aMo_labelHeight, .int (iI zRl.labelTop), .int (iI zRq.steps), .ref aMo_tape, .int (iI zMi.taped), .int (bI zMi.there), .int (iI zMi.reason), .ref aMo_arguments, .int (iI zMi.argumentCount), .int (iI zMi.code)]))] := by
        intro y_6 hy_6 hf H_644 locs_644 hP_644 hD_644 hS_644 ls hl
        clear hS_552 hD_552 hP_552
        replace hf := (congrFun hK_7 y_6).symm.trans hf
        clear hK_7
        refine lv_lstore (lv' := [(11, .long y_6), (0, .ref aMo), (1, .int (iI v_k)), (2, .long v_a), (4, .long v_b), (6, .int (bI v_small)), (7, .int (iI y_1)), (8, .int (iI ((v_b.toInt32 &&& (iI (y_1 - 1))).toInt))), (9, .long y_4)]) hx hb d_Mo_worked_56 hl (by decide) rfl (fun ls hl => ?_)
        refine lv_iload_n hx hb d_Mo_worked_58 rfl (lv_at hl 2 rfl) ?_
        refine jpE hf (fun K_9 hK_9 hf9 => ?_)
        replace hf := hf9
        clear hf9
        have hJK_9 : ∀ (y_8 : Unit), True → K_9 y_8 = R9 → ∀ (H_644 : Heap) (locs_644 : List Loc), (fun w9 => va_P G classes w9 H_644 → va_D A w9 → va_S A s.heap H_644 locs_644 → ∀ (ls : Array Slot), lv_has ls 13 [(0, .ref aMo), (1, .int (iI v_k)), (2, .long v_a), (4, .long v_b), (6, .int (bI v_small)), (7, .int (iI y_1)), (8, .int (iI ((v_b.toInt32 &&& (iI (y_1 - 1))).toInt))), (9, .long y_4), (11, .long y_6)] → W p l e (headSpec (wx y_Mo_worked b_Mo_worked 13 (some .long)) { frames := 2, cells := 0, slots := 0, locals := 43 }).room s m ([.ref aMo, .int (iI v_k), .long v_a, .long v_b, .int (bI v_small)] : List Value).toArray below meth c H_644 locs_644 0 0 (MX below (XQ G classes A (pq_Mo_worked aRf tA tB tC tD tE tF aMo aMo_magic aM1 aM2 aMm aMo_blocks aMo_stack aMo_heights aMo_labels aMo_outs aMo_kinds aMo_lost aMo_memory aMo_globals aMo_values aMo_frameFunction aMo_frameReturn aMo_frameBase aMo_frameLabels aMo_labelAt aMo_labelHeight aMo_tape aMo_arguments zMc zVt zVo zVf zRg zRs zRr zRl zRq zMi R9)) ([.ref aMo, .int (iI v_k), .long v_a, .long v_b, .int (bI v_small)] : List Value).toArray s 0 0 A) (F0 m 203 ls [])) [(aRf, .inr (12, [tA, tB, tC, tD, tE, tF, .int (iI zRf.reason)])), (aMo, .inr (10, [.ref aRf, .ref aMo_magic, .ref aM1, .ref aM2, .ref aMm, .int (iI zMc.cursor), .int (iI zMc.limit), .ref aMo_blocks, .ref aMo_stack, .int (iI zVt.top), .ref aMo_heights, .ref aMo_labels, .ref aMo_outs, .ref aMo_kinds, .ref aMo_lost, .int (iI zVo.depth), .int (iI zVf.function), .ref aMo_memory, .int (iI zRg.pages), .ref aMo_globals, .ref aMo_values, .int (iI zRs.valueTop), .ref aMo_frameFunction, .ref aMo_frameReturn, .ref aMo_frameBase, .ref aMo_frameLabels, .int (iI zRr.frames), .ref aMo_labelAt, .ref aMo_labelHeight, .int (iI zRl.labelTop), .int (iI zRq.steps), .ref aMo_tape, .int (iI zMi.taped), .int (bI zMi.there), .int (iI zMi.reason), .ref aMo_arguments, .int (iI zMi.argumentCount), .int (iI zMi.code)]))] := by
          intro y_8 hy_8 hf H_690 locs_690 hP_690 hD_690 hS_690 ls hl
          clear hS_644 hD_644 hP_644
          replace hf := (congrFun hK_9 y_8).symm.trans hf
          clear hK_9
          refine lv_aload_n hx hb d_Mo_worked_203 rfl (lv_at hl 0 rfl) ?_
          refine lv_lload hx hb d_Mo_worked_204 (lv_at hl 3 rfl) ?_
          refine lv_lconst (v := 0) hx hb d_Mo_worked_206 (by decide) ?_
          refine W.lcmp hx hb d_Mo_worked_207 ?_
          refine jpE hf (fun K_11 hK_11 hf9 => ?_)
          replace hf := hf9
          clear hf9
          have hJK_11 : ∀ (y_10 : Bool), True → K_11 y_10 = R9 → ∀ (H_690 : Heap) (locs_690 : List Loc), (fun w9 => va_P G classes w9 H_690 → va_D A w9 → va_S A s.heap H_690 locs_690 → ∀ (ls : Array Slot), lv_has ls 13 [(0, .ref aMo), (1, .int (iI v_k)), (2, .long v_a), (4, .long v_b), (6, .int (bI v_small)), (7, .int (iI y_1)), (8, .int (iI ((v_b.toInt32 &&& (iI (y_1 - 1))).toInt))), (9, .long y_4), (11, .long y_6)] → W p l e (headSpec (wx y_Mo_worked b_Mo_worked 13 (some .long)) { frames := 2, cells := 0, slots := 0, locals := 43 }).room s m ([.ref aMo, .int (iI v_k), .long v_a, .long v_b, .int (bI v_small)] : List Value).toArray below meth c H_690 locs_690 0 0 (MX below (XQ G classes A (pq_Mo_worked aRf tA tB tC tD tE tF aMo aMo_magic aM1 aM2 aMm aMo_blocks aMo_stack aMo_heights aMo_labels aMo_outs aMo_kinds aMo_lost aMo_memory aMo_globals aMo_values aMo_frameFunction aMo_frameReturn aMo_frameBase aMo_frameLabels aMo_labelAt aMo_labelHeight aMo_tape aMo_arguments zMc zVt zVo zVf zRg zRs zRr zRl zRq zMi R9)) ([.ref aMo, .int (iI v_k), .long v_a, .long v_b, .int (bI v_small)] : List Value).toArray s 0 0 A) (F0 m 216 ls [.int (bI y_10), .ref aMo])) [(aRf, .inr (12, [tA, tB, tC, tD, tE, tF, .int (iI zRf.reason)])), (aMo, .inr (10, [.ref aRf, .ref aMo_magic, .ref aM1, .ref aM2, .ref aMm, .int (iI zMc.cursor), .int (iI zMc.limit), .ref aMo_blocks, .ref aMo_stack, .int (iI zVt.top), .ref aMo_heights, .ref aMo_labels, .ref aMo_outs, .ref aMo_kinds, .ref aMo_lost, .int (iI zVo.depth), .int (iI zVf.function), .ref aMo_memory, .int (iI zRg.pages), .ref aMo_globals, .ref aMo_values, .int (iI zRs.valueTop), .ref aMo_frameFunction, .ref aMo_frameReturn, .ref aMo_frameBase, .ref aMo_frameLabels, .int (iI zRr.frames), .ref aMo_labelAt, .ref aMo_labelHeight, .int (iI zRl.labelTop), .int (iI zRq.steps), .ref aMo_tape, .int (iI zMi.taped), .int (bI zMi.there), .int (iI zMi.reason), .ref aMo_arguments, .int (iI zMi.argumentCount), .int (iI zMi.code)]))] := by
            intro y_10 hy_10 hf H_698 locs_698 hP_698 hD_698 hS_698 ls hl
            clear hS_690 hD_690 hP_690
            replace hf := (congrFun hK_11 y_10).symm.trans hf
            clear hK_11
            refine lv_iconst (v := iI 4) hx hb d_Mo_worked_216 (by decide) ?_
            replace hf := ob2 hnb hf
            rcases hf with ⟨x_12, e_13, hf⟩ | ⟨x_12, e_13, hf⟩
            · refine xx_callV (wc := [(aRf, .inr (12, [tA, tB, tC, tD, tE, tF, .int (iI zRf.reason)])), (aMo, .inr (10, [.ref aRf, .ref aMo_magic, .ref aM1, .ref aM2, .ref aMm, .int (iI zMc.cursor), .int (iI zMc.limit), .ref aMo_blocks, .ref aMo_stack, .int (iI zVt.top), .ref aMo_heights, .ref aMo_labels, .ref aMo_outs, .ref aMo_kinds, .ref aMo_lost, .int (iI zVo.depth), .int (iI zVf.function), .ref aMo_memory, .int (iI zRg.pages), .ref aMo_globals, .ref aMo_values, .int (iI zRs.valueTop), .ref aMo_frameFunction, .ref aMo_frameReturn, .ref aMo_frameBase, .ref aMo_frameLabels, .int (iI zRr.frames), .ref aMo_labelAt, .ref aMo_labelHeight, .int (iI zRl.labelTop), .int (iI zRq.steps), .ref aMo_tape, .int (iI zMi.taped), .int (bI zMi.there), .int (iI zMi.reason), .ref aMo_arguments, .int (iI zMi.argumentCount), .int (iI zMi.code)]))]) (wr := []) (As := [.int (bI y_10), .int (iI 4)]) (rest := []) ⟨hx, hb, hml, hown, hts⟩ xE_st hK hE hA (k_Mo_ends l htr G cB cI cJ cZ cG aRf tA tB tC tD tE tF aMo aMo_magic aM1 aM2 aMm aMo_blocks aMo_stack aMo_heights aMo_labels aMo_outs aMo_kinds aMo_lost aMo_memory aMo_globals aMo_values aMo_frameFunction aMo_frameReturn aMo_frameBase aMo_frameLabels aMo_labelAt aMo_labelHeight aMo_tape aMo_arguments zRf zMc zVt zVo zVf zRg zRs zRr zRl zRq zMi hzRf hzMc hzVt hzVo hzVf hzRg hzRs hzRr hzRl hzRq hzMi y_10 4 (show R32 (4) by decide) (.ret x_12) e_13 ret_nb _) (xw_V 2 hts m_1556 m_1558 ms_Mo_ends m_11 m_1559 (by decide +kernel) ⟨(Nat.le_of_ble_eq_true rfl), (Nat.le_of_ble_eq_true rfl)⟩) hP_698 hD_698 hS_698 [0, 1] [] rfl rfl (by decide +kernel) (by decide +kernel) (by decide +kernel) 1 10 rfl rfl rfl rfl hl.1 rfl (Nat.le_of_ble_eq_true rfl) d_Mo_worked_217 ⟨(Nat.le_of_ble_eq_true rfl), (Nat.le_of_ble_eq_true rfl)⟩ (fun v9 w9 H_699 locs_699 hp hP_699 hD_699 hS_699 => ?_) (fun x9 w9 H9 l9 hp _ _ _ => absurd hp (fun q9 => by obtain ⟨-, ho, -⟩ := q9; cases ho))
              clear hS_698 hD_698 hP_698
              obtain ⟨hx_12, ho, rfl⟩ := hp
              cases ho
              have hQ9 : (fun w9 => va_P G classes w9 H_699 ∧ va_D A w9) [(aRf, .inr (12, [tA, tB, tC, tD, tE, tF, .int (iI x_12.reason)])), (aMo, .inr (10, [.ref aRf, .ref aMo_magic, .ref aM1, .ref aM2, .ref aMm, .int (iI zMc.cursor), .int (iI zMc.limit), .ref aMo_blocks, .ref aMo_stack, .int (iI zVt.top), .ref aMo_heights, .ref aMo_labels, .ref aMo_outs, .ref aMo_kinds, .ref aMo_lost, .int (iI zVo.depth), .int (iI zVf.function), .ref aMo_memory, .int (iI zRg.pages), .ref aMo_globals, .ref aMo_values, .int (iI zRs.valueTop), .ref aMo_frameFunction, .ref aMo_frameReturn, .ref aMo_frameBase, .ref aMo_frameLabels, .int (iI zRr.frames), .ref aMo_labelAt, .ref aMo_labelHeight, .int (iI zRl.labelTop), .int (iI zRq.steps), .ref aMo_tape, .int (iI zMi.taped), .int (bI zMi.there), .int (iI zMi.reason), .ref aMo_arguments, .int (iI zMi.argumentCount), .int (iI zMi.code)]))] := ⟨hP_699, hD_699⟩
              clear hP_699 hD_699
              obtain ⟨hP_699, hD_699⟩ := hQ9
              refine lv_iload_n hx hb d_Mo_worked_220 rfl (lv_at hl 1 rfl) ?_
              refine lv_bipush (v := iI 110) hx hb d_Mo_worked_221 (by decide) ?_
              refine jpE hf (fun K_15 hK_15 hf9 => ?_)
              replace hf := hf9
              clear hf9
              have hJK_15 : ∀ (y_14 : Int64), True → K_15 y_14 = R9 → ∀ (H_699 : Heap) (locs_699 : List Loc), (fun w9 => va_P G classes w9 H_699 → va_D A w9 → va_S A s.heap H_699 locs_699 → ∀ (ls : Array Slot), lv_has ls 13 [(0, .ref aMo), (1, .int (iI v_k)), (2, .long v_a), (4, .long v_b), (6, .int (bI v_small)), (7, .int (iI y_1)), (8, .int (iI ((v_b.toInt32 &&& (iI (y_1 - 1))).toInt))), (9, .long y_4), (11, .long y_6)] → W p l e (headSpec (wx y_Mo_worked b_Mo_worked 13 (some .long)) { frames := 2, cells := 0, slots := 0, locals := 43 }).room s m ([.ref aMo, .int (iI v_k), .long v_a, .long v_b, .int (bI v_small)] : List Value).toArray below meth c H_699 locs_699 0 0 (MX below (XQ G classes A (pq_Mo_worked aRf tA tB tC tD tE tF aMo aMo_magic aM1 aM2 aMm aMo_blocks aMo_stack aMo_heights aMo_labels aMo_outs aMo_kinds aMo_lost aMo_memory aMo_globals aMo_values aMo_frameFunction aMo_frameReturn aMo_frameBase aMo_frameLabels aMo_labelAt aMo_labelHeight aMo_tape aMo_arguments zMc zVt zVo zVf zRg zRs zRr zRl zRq zMi R9)) ([.ref aMo, .int (iI v_k), .long v_a, .long v_b, .int (bI v_small)] : List Value).toArray s 0 0 A) (F0 m 249 ls [.long y_14])) [(aRf, .inr (12, [tA, tB, tC, tD, tE, tF, .int (iI x_12.reason)])), (aMo, .inr (10, [.ref aRf, .ref aMo_magic, .ref aM1, .ref aM2, .ref aMm, .int (iI zMc.cursor), .int (iI zMc.limit), .ref aMo_blocks, .ref aMo_stack, .int (iI zVt.top), .ref aMo_heights, .ref aMo_labels, .ref aMo_outs, .ref aMo_kinds, .ref aMo_lost, .int (iI zVo.depth), .int (iI zVf.function), .ref aMo_memory, .int (iI zRg.pages), .ref aMo_globals, .ref aMo_values, .int (iI zRs.valueTop), .ref aMo_frameFunction, .ref aMo_frameReturn, .ref aMo_frameBase, .ref aMo_frameLabels, .int (iI zRr.frames), .ref aMo_labelAt, .ref aMo_labelHeight, .int (iI zRl.labelTop), .int (iI zRq.steps), .ref aMo_tape, .int (iI zMi.taped), .int (bI zMi.there), .int (iI zMi.reason), .ref aMo_arguments, .int (iI zMi.argumentCount), .int (iI zMi.code)]))] := by
                intro y_14 hy_14 hf H_702 locs_702 hP_702 hD_702 hS_702 ls hl
                clear hS_699 hD_699 hP_699
                replace hf := (congrFun hK_15 y_14).symm.trans hf
                clear hK_15
                exact ex_W (fun _ h => ex_mq h) (W.lret (v := y_14) hx hb hr (fun t ht hW => ⟨⟨_, ozr hf ⟨hx_12, rfl, rfl⟩, by rw [ht]; exact hP_702, hD_702⟩, hS_702.F ht⟩) hS_702.2.2 d_Mo_worked_249)
              clear hK_15
              refine lv_icmp_ne (tgt := 236) hx hb d_Mo_worked_223 (by decide) (fun c_16 => ?_) (fun c_16 => ?_)
              · have c_16 := (fun q9 => c_16 (((zv_eq (iI_t hv_k) (iI_t (show R32 (110) by decide)))).mpr q9))
                replace hf := ifn c_16 hf
                refine lv_lload hx hb d_Mo_worked_236 (lv_at hl 7 rfl) ?_
                refine lv_lload hx hb d_Mo_worked_238 (lv_at hl 7 rfl) ?_
                refine lv_lload hx hb d_Mo_worked_240 (lv_at hl 8 rfl) ?_
                replace hf := obE hnb hf
                obtain ⟨x_17, e_18, hf⟩ := hf
                refine xx_callS (wc := []) (wr := [(aRf, .inr (12, [tA, tB, tC, tD, tE, tF, .int (iI x_12.reason)])), (aMo, .inr (10, [.ref aRf, .ref aMo_magic, .ref aM1, .ref aM2, .ref aMm, .int (iI zMc.cursor), .int (iI zMc.limit), .ref aMo_blocks, .ref aMo_stack, .int (iI zVt.top), .ref aMo_heights, .ref aMo_labels, .ref aMo_outs, .ref aMo_kinds, .ref aMo_lost, .int (iI zVo.depth), .int (iI zVf.function), .ref aMo_memory, .int (iI zRg.pages), .ref aMo_globals, .ref aMo_values, .int (iI zRs.valueTop), .ref aMo_frameFunction, .ref aMo_frameReturn, .ref aMo_frameBase, .ref aMo_frameLabels, .int (iI zRr.frames), .ref aMo_labelAt, .ref aMo_labelHeight, .int (iI zRl.labelTop), .int (iI zRq.steps), .ref aMo_tape, .int (iI zMi.taped), .int (bI zMi.there), .int (iI zMi.reason), .ref aMo_arguments, .int (iI zMi.argumentCount), .int (iI zMi.code)]))]) (As := [.long y_4, .long y_6]) (rest := [.long y_4]) ⟨hx, hb, hml, hown, hts⟩ xE_st hK hE hA (k_Mo_over l htr G cB cI cJ cZ cG y_4 y_6 (.ret x_17) e_18 ret_nb _) (xw_S 2 hts m_1621 m_1622 m_11 m_1623 (by decide +kernel) ⟨(Nat.le_of_ble_eq_true rfl), (Nat.le_of_ble_eq_true rfl)⟩) hP_699 hD_699 hS_699 [] [0, 1] rfl rfl (by decide +kernel) (by decide +kernel) (by decide +kernel) rfl hl.1 rfl (Nat.le_of_ble_eq_true rfl) d_Mo_worked_242 ⟨(Nat.le_of_ble_eq_true rfl), (Nat.le_of_ble_eq_true rfl)⟩ (fun v9 w9 H_703 locs_703 hp hP_703 hD_703 hS_703 => ?_) (fun x9 w9 H9 l9 hp _ _ _ => absurd hp (fun q9 => by obtain ⟨-, ho, -⟩ := q9; cases ho))
                clear hS_699 hD_699 hP_699
                obtain ⟨hx_17, ho, rfl⟩ := hp
                cases ho
                have hQ9 : (fun w9 => va_P G classes w9 H_703 ∧ va_D A w9) [(aRf, .inr (12, [tA, tB, tC, tD, tE, tF, .int (iI x_12.reason)])), (aMo, .inr (10, [.ref aRf, .ref aMo_magic, .ref aM1, .ref aM2, .ref aMm, .int (iI zMc.cursor), .int (iI zMc.limit), .ref aMo_blocks, .ref aMo_stack, .int (iI zVt.top), .ref aMo_heights, .ref aMo_labels, .ref aMo_outs, .ref aMo_kinds, .ref aMo_lost, .int (iI zVo.depth), .int (iI zVf.function), .ref aMo_memory, .int (iI zRg.pages), .ref aMo_globals, .ref aMo_values, .int (iI zRs.valueTop), .ref aMo_frameFunction, .ref aMo_frameReturn, .ref aMo_frameBase, .ref aMo_frameLabels, .int (iI zRr.frames), .ref aMo_labelAt, .ref aMo_labelHeight, .int (iI zRl.labelTop), .int (iI zRq.steps), .ref aMo_tape, .int (iI zMi.taped), .int (bI zMi.there), .int (iI zMi.reason), .ref aMo_arguments, .int (iI zMi.argumentCount), .int (iI zMi.code)]))] := ⟨hP_703, hD_703⟩
                clear hP_703 hD_703
                obtain ⟨hP_703, hD_703⟩ := hQ9
                refine lv_lload hx hb d_Mo_worked_245 (lv_at hl 8 rfl) ?_
                refine lv_lmul hx hb d_Mo_worked_247 ?_
                refine lv_lsub hx hb d_Mo_worked_248 ?_
                exact hJK_15 (y_4 - (x_17 * y_6)) trivial hf _ _ hP_703 hD_703 hS_703 _ (lv_sub hl [0, 1, 2, 3, 4, 5, 6, 7, 8] rfl)
              · have c_16 := ((zv_eq (iI_t hv_k) (iI_t (show R32 (110) by decide)))).mp c_16
                replace hf := ifp c_16 hf
                refine lv_lload hx hb d_Mo_worked_226 (lv_at hl 7 rfl) ?_
                refine lv_lload hx hb d_Mo_worked_228 (lv_at hl 8 rfl) ?_
                replace hf := obE hnb hf
                obtain ⟨x_19, e_20, hf⟩ := hf
                refine xx_callS (wc := []) (wr := [(aRf, .inr (12, [tA, tB, tC, tD, tE, tF, .int (iI x_12.reason)])), (aMo, .inr (10, [.ref aRf, .ref aMo_magic, .ref aM1, .ref aM2, .ref aMm, .int (iI zMc.cursor), .int (iI zMc.limit), .ref aMo_blocks, .ref aMo_stack, .int (iI zVt.top), .ref aMo_heights, .ref aMo_labels, .ref aMo_outs, .ref aMo_kinds, .ref aMo_lost, .int (iI zVo.depth), .int (iI zVf.function), .ref aMo_memory, .int (iI zRg.pages), .ref aMo_globals, .ref aMo_values, .int (iI zRs.valueTop), .ref aMo_frameFunction, .ref aMo_frameReturn, .ref aMo_frameBase, .ref aMo_frameLabels, .int (iI zRr.frames), .ref aMo_labelAt, .ref aMo_labelHeight, .int (iI zRl.labelTop), .int (iI zRq.steps), .ref aMo_tape, .int (iI zMi.taped), .int (bI zMi.there), .int (iI zMi.reason), .ref aMo_arguments, .int (iI zMi.argumentCount), .int (iI zMi.code)]))]) (As := [.long y_4, .long y_6]) (rest := []) ⟨hx, hb, hml, hown, hts⟩ xE_st hK hE hA (k_Mo_over l htr G cB cI cJ cZ cG y_4 y_6 (.ret x_19) e_20 ret_nb _) (xw_S 2 hts m_1621 m_1622 m_11 m_1623 (by decide +kernel) ⟨(Nat.le_of_ble_eq_true rfl), (Nat.le_of_ble_eq_true rfl)⟩) hP_699 hD_699 hS_699 [] [0, 1] rfl rfl (by decide +kernel) (by decide +kernel) (by decide +kernel) rfl hl.1 rfl (Nat.le_of_ble_eq_true rfl) d_Mo_worked_230 ⟨(Nat.le_of_ble_eq_true rfl), (Nat.le_of_ble_eq_true rfl)⟩ (fun v9 w9 H_704 locs_704 hp hP_704 hD_704 hS_704 => ?_) (fun x9 w9 H9 l9 hp _ _ _ => absurd hp (fun q9 => by obtain ⟨-, ho, -⟩ := q9; cases ho))
                clear hS_699 hD_699 hP_699
                obtain ⟨hx_19, ho, rfl⟩ := hp
                cases ho
                have hQ9 : (fun w9 => va_P G classes w9 H_704 ∧ va_D A w9) [(aRf, .inr (12, [tA, tB, tC, tD, tE, tF, .int (iI x_12.reason)])), (aMo, .inr (10, [.ref aRf, .ref aMo_magic, .ref aM1, .ref aM2, .ref aMm, .int (iI zMc.cursor), .int (iI zMc.limit), .ref aMo_blocks, .ref aMo_stack, .int (iI zVt.top), .ref aMo_heights, .ref aMo_labels, .ref aMo_outs, .ref aMo_kinds, .ref aMo_lost, .int (iI zVo.depth), .int (iI zVf.function), .ref aMo_memory, .int (iI zRg.pages), .ref aMo_globals, .ref aMo_values, .int (iI zRs.valueTop), .ref aMo_frameFunction, .ref aMo_frameReturn, .ref aMo_frameBase, .ref aMo_frameLabels, .int (iI zRr.frames), .ref aMo_labelAt, .ref aMo_labelHeight, .int (iI zRl.labelTop), .int (iI zRq.steps), .ref aMo_tape, .int (iI zMi.taped), .int (bI zMi.there), .int (iI zMi.reason), .ref aMo_arguments, .int (iI zMi.argumentCount), .int (iI zMi.code)]))] := ⟨hP_704, hD_704⟩
                clear hP_704 hD_704
                obtain ⟨hP_704, hD_704⟩ := hQ9
                refine lv_goto (tgt := 249) hx hb d_Mo_worked_233 (by decide) ?_
                exact hJK_15 x_19 trivial hf _ _ hP_704 hD_704 hS_704 _ (lv_sub hl [0, 1, 2, 3, 4, 5, 6, 7, 8] rfl)
            · refine xx_callV (wc := [(aRf, .inr (12, [tA, tB, tC, tD, tE, tF, .int (iI zRf.reason)])), (aMo, .inr (10, [.ref aRf, .ref aMo_magic, .ref aM1, .ref aM2, .ref aMm, .int (iI zMc.cursor), .int (iI zMc.limit), .ref aMo_blocks, .ref aMo_stack, .int (iI zVt.top), .ref aMo_heights, .ref aMo_labels, .ref aMo_outs, .ref aMo_kinds, .ref aMo_lost, .int (iI zVo.depth), .int (iI zVf.function), .ref aMo_memory, .int (iI zRg.pages), .ref aMo_globals, .ref aMo_values, .int (iI zRs.valueTop), .ref aMo_frameFunction, .ref aMo_frameReturn, .ref aMo_frameBase, .ref aMo_frameLabels, .int (iI zRr.frames), .ref aMo_labelAt, .ref aMo_labelHeight, .int (iI zRl.labelTop), .int (iI zRq.steps), .ref aMo_tape, .int (iI zMi.taped), .int (bI zMi.there), .int (iI zMi.reason), .ref aMo_arguments, .int (iI zMi.argumentCount), .int (iI zMi.code)]))]) (wr := []) (As := [.int (bI y_10), .int (iI 4)]) (rest := []) ⟨hx, hb, hml, hown, hts⟩ xE_st hK hE hA (k_Mo_ends l htr G cB cI cJ cZ cG aRf tA tB tC tD tE tF aMo aMo_magic aM1 aM2 aMm aMo_blocks aMo_stack aMo_heights aMo_labels aMo_outs aMo_kinds aMo_lost aMo_memory aMo_globals aMo_values aMo_frameFunction aMo_frameReturn aMo_frameBase aMo_frameLabels aMo_labelAt aMo_labelHeight aMo_tape aMo_arguments zRf zMc zVt zVo zVf zRg zRs zRr zRl zRq zMi hzRf hzMc hzVt hzVo hzVf hzRg hzRs hzRr hzRl hzRq hzMi y_10 4 (show R32 (4) by decide) (.thr x_12) e_13 thr_nb _) (xw_V 2 hts m_1556 m_1558 ms_Mo_ends m_11 m_1559 (by decide +kernel) ⟨(Nat.le_of_ble_eq_true rfl), (Nat.le_of_ble_eq_true rfl)⟩) hP_698 hD_698 hS_698 [0, 1] [] rfl rfl (by decide +kernel) (by decide +kernel) (by decide +kernel) 1 10 rfl rfl rfl rfl hl.1 rfl (Nat.le_of_ble_eq_true rfl) d_Mo_worked_217 ⟨(Nat.le_of_ble_eq_true rfl), (Nat.le_of_ble_eq_true rfl)⟩ (fun v9 w9 H9 l9 hp _ _ _ => absurd hp (fun q9 => by obtain ⟨-, ho, -⟩ := q9; cases ho)) (fun x9 w9 H_705 locs_705 hp hP_705 hD_705 hS_705 => ?_)
              clear hS_698 hD_698 hP_698
              obtain ⟨hx_12, ho, rfl⟩ := hp
              cases ho
              have hQ9 : (fun w9 => va_P G classes w9 H_705 ∧ va_D A w9) [(aRf, .inr (12, [tA, tB, tC, tD, tE, tF, .int (iI x_12.reason)])), (aMo, .inr (10, [.ref aRf, .ref aMo_magic, .ref aM1, .ref aM2, .ref aMm, .int (iI zMc.cursor), .int (iI zMc.limit), .ref aMo_blocks, .ref aMo_stack, .int (iI zVt.top), .ref aMo_heights, .ref aMo_labels, .ref aMo_outs, .ref aMo_kinds, .ref aMo_lost, .int (iI zVo.depth), .int (iI zVf.function), .ref aMo_memory, .int (iI zRg.pages), .ref aMo_globals, .ref aMo_values, .int (iI zRs.valueTop), .ref aMo_frameFunction, .ref aMo_frameReturn, .ref aMo_frameBase, .ref aMo_frameLabels, .int (iI zRr.frames), .ref aMo_labelAt, .ref aMo_labelHeight, .int (iI zRl.labelTop), .int (iI zRq.steps), .ref aMo_tape, .int (iI zMi.taped), .int (bI zMi.there), .int (iI zMi.reason), .ref aMo_arguments, .int (iI zMi.argumentCount), .int (iI zMi.code)]))] := ⟨hP_705, hD_705⟩
              clear hP_705 hD_705
              obtain ⟨hP_705, hD_705⟩ := hQ9
              exact ex_out rfl rfl rfl (hno _) hlocks (fun t ht hW => ⟨⟨_, ozt hf ⟨hx_12, rfl, rfl⟩, by rw [ht]; exact hP_705, hD_705⟩, hS_705.F ht⟩) hS_705.2.2
          clear hK_11
          refine lv_if_ne (tgt := 215) hx hb d_Mo_worked_208 (by decide) (fun c_21 => ?_) (fun c_21 => ?_)
          · have c_21 := (fun q9 => c_21 ((lc_eq).mpr q9))
            replace hf := ifn c_21 hf
            refine lv_iconst (v := iI 0) hx hb d_Mo_worked_215 (by decide) ?_
            refine W.eq (g2 := F0 m 216 ls [.int (bI false), .ref aMo]) (by rfl) ?_
            exact hJK_11 false trivial hf _ _ hP_690 hD_690 hS_690 _ (lv_sub hl [0, 1, 2, 3, 4, 5, 6, 7, 8] rfl)
          · have c_21 := (lc_eq).mp c_21
            replace hf := ifp c_21 hf
            refine lv_iconst (v := iI 1) hx hb d_Mo_worked_211 (by decide) ?_
            refine lv_goto (tgt := 216) hx hb d_Mo_worked_212 (by decide) ?_
            refine W.eq (g2 := F0 m 216 ls [.int (bI true), .ref aMo]) (by rfl) ?_
            exact hJK_11 true trivial hf _ _ hP_690 hD_690 hS_690 _ (lv_sub hl [0, 1, 2, 3, 4, 5, 6, 7, 8] rfl)
        clear hK_9
        rcases Decidable.em (v_k = 106) with q_22 | q_22
        · replace hf := ifp q_22 hf
          refine lv_tableIn (off := 69) (tgt := 128) hx hb d_Mo_worked_59 (by rw [(iI_t hv_k).trans q_22]; decide) (by rw [(iI_t hv_k).trans q_22]; decide) (by rw [(iI_t hv_k).trans q_22]; rfl) (by decide) ?_
          refine lv_lload_n hx hb d_Mo_worked_128 rfl (lv_at hl 3 rfl) ?_
          refine lv_lload hx hb d_Mo_worked_129 (lv_at hl 4 rfl) ?_
          refine lv_ladd hx hb d_Mo_worked_131 ?_
          exact ex_W (fun _ h => ex_mq h) (W.lret (v := v_a + v_b) hx hb hr (fun t ht hW => ⟨⟨_, ozr hf ⟨hzRf, rfl, rfl⟩, by rw [ht]; exact hP_644, hD_644⟩, hS_644.F ht⟩) hS_644.2.2 d_Mo_worked_132)
        replace hf := ifn q_22 hf
        rcases Decidable.em (v_k = 107) with q_23 | q_23
        · replace hf := ifp q_23 hf
          refine lv_tableIn (off := 74) (tgt := 133) hx hb d_Mo_worked_59 (by rw [(iI_t hv_k).trans q_23]; decide) (by rw [(iI_t hv_k).trans q_23]; decide) (by rw [(iI_t hv_k).trans q_23]; rfl) (by decide) ?_
          refine lv_lload_n hx hb d_Mo_worked_133 rfl (lv_at hl 3 rfl) ?_
          refine lv_lload hx hb d_Mo_worked_134 (lv_at hl 4 rfl) ?_
          refine lv_lsub hx hb d_Mo_worked_136 ?_
          exact ex_W (fun _ h => ex_mq h) (W.lret (v := v_a - v_b) hx hb hr (fun t ht hW => ⟨⟨_, ozr hf ⟨hzRf, rfl, rfl⟩, by rw [ht]; exact hP_644, hD_644⟩, hS_644.F ht⟩) hS_644.2.2 d_Mo_worked_137)
        replace hf := ifn q_23 hf
        rcases Decidable.em (v_k = 108) with q_24 | q_24
        · replace hf := ifp q_24 hf
          refine lv_tableIn (off := 79) (tgt := 138) hx hb d_Mo_worked_59 (by rw [(iI_t hv_k).trans q_24]; decide) (by rw [(iI_t hv_k).trans q_24]; decide) (by rw [(iI_t hv_k).trans q_24]; rfl) (by decide) ?_
          refine lv_lload_n hx hb d_Mo_worked_138 rfl (lv_at hl 3 rfl) ?_
          refine lv_lload hx hb d_Mo_worked_139 (lv_at hl 4 rfl) ?_
          refine lv_lmul hx hb d_Mo_worked_141 ?_
          exact ex_W (fun _ h => ex_mq h) (W.lret (v := v_a * v_b) hx hb hr (fun t ht hW => ⟨⟨_, ozr hf ⟨hzRf, rfl, rfl⟩, by rw [ht]; exact hP_644, hD_644⟩, hS_644.F ht⟩) hS_644.2.2 d_Mo_worked_142)
        replace hf := ifn q_24 hf
        rcases Decidable.em (v_k = 109) with q_25 | q_25
        · replace hf := ifp q_25 hf
          refine lv_tableIn (off := 84) (tgt := 143) hx hb d_Mo_worked_59 (by rw [(iI_t hv_k).trans q_25]; decide) (by rw [(iI_t hv_k).trans q_25]; decide) (by rw [(iI_t hv_k).trans q_25]; rfl) (by decide) ?_
          refine lv_aload_n hx hb d_Mo_worked_143 rfl (lv_at hl 1 rfl) ?_
          refine lv_lload hx hb d_Mo_worked_144 (lv_at hl 4 rfl) ?_
          refine lv_lconst (v := 0) hx hb d_Mo_worked_146 (by decide) ?_
          refine W.lcmp hx hb d_Mo_worked_147 ?_
          refine jpE hf (fun K_27 hK_27 hf9 => ?_)
          replace hf := hf9
          clear hf9
          have hJK_27 : ∀ (y_26 : Bool), True → K_27 y_26 = R9 → ∀ (H_644 : Heap) (locs_644 : List Loc), (fun w9 => va_P G classes w9 H_644 → va_D A w9 → va_S A s.heap H_644 locs_644 → ∀ (ls : Array Slot), lv_has ls 13 [(0, .ref aMo), (1, .int (iI v_k)), (2, .long v_a), (4, .long v_b), (6, .int (bI v_small)), (7, .int (iI y_1)), (8, .int (iI ((v_b.toInt32 &&& (iI (y_1 - 1))).toInt))), (9, .long y_4), (11, .long y_6)] → W p l e (headSpec (wx y_Mo_worked b_Mo_worked 13 (some .long)) { frames := 2, cells := 0, slots := 0, locals := 43 }).room s m ([.ref aMo, .int (iI v_k), .long v_a, .long v_b, .int (bI v_small)] : List Value).toArray below meth c H_644 locs_644 0 0 (MX below (XQ G classes A (pq_Mo_worked aRf tA tB tC tD tE tF aMo aMo_magic aM1 aM2 aMm aMo_blocks aMo_stack aMo_heights aMo_labels aMo_outs aMo_kinds aMo_lost aMo_memory aMo_globals aMo_values aMo_frameFunction aMo_frameReturn aMo_frameBase aMo_frameLabels aMo_labelAt aMo_labelHeight aMo_tape aMo_arguments zMc zVt zVo zVf zRg zRs zRr zRl zRq zMi R9)) ([.ref aMo, .int (iI v_k), .long v_a, .long v_b, .int (bI v_small)] : List Value).toArray s 0 0 A) (F0 m 156 ls [.int (bI y_26), .ref aMo])) [(aRf, .inr (12, [tA, tB, tC, tD, tE, tF, .int (iI zRf.reason)])), (aMo, .inr (10, [.ref aRf, .ref aMo_magic, .ref aM1, .ref aM2, .ref aMm, .int (iI zMc.cursor), .int (iI zMc.limit), .ref aMo_blocks, .ref aMo_stack, .int (iI zVt.top), .ref aMo_heights, .ref aMo_labels, .ref aMo_outs, .ref aMo_kinds, .ref aMo_lost, .int (iI zVo.depth), .int (iI zVf.function), .ref aMo_memory, .int (iI zRg.pages), .ref aMo_globals, .ref aMo_values, .int (iI zRs.valueTop), .ref aMo_frameFunction, .ref aMo_frameReturn, .ref aMo_frameBase, .ref aMo_frameLabels, .int (iI zRr.frames), .ref aMo_labelAt, .ref aMo_labelHeight, .int (iI zRl.labelTop), .int (iI zRq.steps), .ref aMo_tape, .int (iI zMi.taped), .int (bI zMi.there), .int (iI zMi.reason), .ref aMo_arguments, .int (iI zMi.argumentCount), .int (iI zMi.code)]))] := by
            intro y_26 hy_26 hf H_716 locs_716 hP_716 hD_716 hS_716 ls hl
            clear hS_644 hD_644 hP_644
            replace hf := (congrFun hK_27 y_26).symm.trans hf
            clear hK_27
            refine lv_iconst (v := iI 4) hx hb d_Mo_worked_156 (by decide) ?_
            replace hf := ob2 hnb hf
            rcases hf with ⟨x_28, e_29, hf⟩ | ⟨x_28, e_29, hf⟩
            · refine xx_callV (wc := [(aRf, .inr (12, [tA, tB, tC, tD, tE, tF, .int (iI zRf.reason)])), (aMo, .inr (10, [.ref aRf, .ref aMo_magic, .ref aM1, .ref aM2, .ref aMm, .int (iI zMc.cursor), .int (iI zMc.limit), .ref aMo_blocks, .ref aMo_stack, .int (iI zVt.top), .ref aMo_heights, .ref aMo_labels, .ref aMo_outs, .ref aMo_kinds, .ref aMo_lost, .int (iI zVo.depth), .int (iI zVf.function), .ref aMo_memory, .int (iI zRg.pages), .ref aMo_globals, .ref aMo_values, .int (iI zRs.valueTop), .ref aMo_frameFunction, .ref aMo_frameReturn, .ref aMo_frameBase, .ref aMo_frameLabels, .int (iI zRr.frames), .ref aMo_labelAt, .ref aMo_labelHeight, .int (iI zRl.labelTop), .int (iI zRq.steps), .ref aMo_tape, .int (iI zMi.taped), .int (bI zMi.there), .int (iI zMi.reason), .ref aMo_arguments, .int (iI zMi.argumentCount), .int (iI zMi.code)]))]) (wr := []) (As := [.int (bI y_26), .int (iI 4)]) (rest := []) ⟨hx, hb, hml, hown, hts⟩ xE_st hK hE hA (k_Mo_ends l htr G cB cI cJ cZ cG aRf tA tB tC tD tE tF aMo aMo_magic aM1 aM2 aMm aMo_blocks aMo_stack aMo_heights aMo_labels aMo_outs aMo_kinds aMo_lost aMo_memory aMo_globals aMo_values aMo_frameFunction aMo_frameReturn aMo_frameBase aMo_frameLabels aMo_labelAt aMo_labelHeight aMo_tape aMo_arguments zRf zMc zVt zVo zVf zRg zRs zRr zRl zRq zMi hzRf hzMc hzVt hzVo hzVf hzRg hzRs hzRr hzRl hzRq hzMi y_26 4 (show R32 (4) by decide) (.ret x_28) e_29 ret_nb _) (xw_V 2 hts m_1556 m_1558 ms_Mo_ends m_11 m_1559 (by decide +kernel) ⟨(Nat.le_of_ble_eq_true rfl), (Nat.le_of_ble_eq_true rfl)⟩) hP_716 hD_716 hS_716 [0, 1] [] rfl rfl (by decide +kernel) (by decide +kernel) (by decide +kernel) 1 10 rfl rfl rfl rfl hl.1 rfl (Nat.le_of_ble_eq_true rfl) d_Mo_worked_157 ⟨(Nat.le_of_ble_eq_true rfl), (Nat.le_of_ble_eq_true rfl)⟩ (fun v9 w9 H_717 locs_717 hp hP_717 hD_717 hS_717 => ?_) (fun x9 w9 H9 l9 hp _ _ _ => absurd hp (fun q9 => by obtain ⟨-, ho, -⟩ := q9; cases ho))
              clear hS_716 hD_716 hP_716
              obtain ⟨hx_28, ho, rfl⟩ := hp
              cases ho
              have hQ9 : (fun w9 => va_P G classes w9 H_717 ∧ va_D A w9) [(aRf, .inr (12, [tA, tB, tC, tD, tE, tF, .int (iI x_28.reason)])), (aMo, .inr (10, [.ref aRf, .ref aMo_magic, .ref aM1, .ref aM2, .ref aMm, .int (iI zMc.cursor), .int (iI zMc.limit), .ref aMo_blocks, .ref aMo_stack, .int (iI zVt.top), .ref aMo_heights, .ref aMo_labels, .ref aMo_outs, .ref aMo_kinds, .ref aMo_lost, .int (iI zVo.depth), .int (iI zVf.function), .ref aMo_memory, .int (iI zRg.pages), .ref aMo_globals, .ref aMo_values, .int (iI zRs.valueTop), .ref aMo_frameFunction, .ref aMo_frameReturn, .ref aMo_frameBase, .ref aMo_frameLabels, .int (iI zRr.frames), .ref aMo_labelAt, .ref aMo_labelHeight, .int (iI zRl.labelTop), .int (iI zRq.steps), .ref aMo_tape, .int (iI zMi.taped), .int (bI zMi.there), .int (iI zMi.reason), .ref aMo_arguments, .int (iI zMi.argumentCount), .int (iI zMi.code)]))] := ⟨hP_717, hD_717⟩
              clear hP_717 hD_717
              obtain ⟨hP_717, hD_717⟩ := hQ9
              refine lv_aload_n hx hb d_Mo_worked_160 rfl (lv_at hl 0 rfl) ?_
              refine lv_lload hx hb d_Mo_worked_161 (lv_at hl 3 rfl) ?_
              refine lv_ldc2 (v := (-1)) hx hb hown (hts _ m_1598) d_Mo_worked_163 ?_
              refine W.lcmp hx hb d_Mo_worked_166 ?_
              refine jpE hf (fun K_31 hK_31 hf9 => ?_)
              replace hf := hf9
              clear hf9
              have hJK_31 : ∀ (y_30 : Bool), True → K_31 y_30 = R9 → ∀ (H_717 : Heap) (locs_717 : List Loc), (fun w9 => va_P G classes w9 H_717 → va_D A w9 → va_S A s.heap H_717 locs_717 → ∀ (ls : Array Slot), lv_has ls 13 [(0, .ref aMo), (1, .int (iI v_k)), (2, .long v_a), (4, .long v_b), (6, .int (bI v_small)), (7, .int (iI y_1)), (8, .int (iI ((v_b.toInt32 &&& (iI (y_1 - 1))).toInt))), (9, .long y_4), (11, .long y_6)] → W p l e (headSpec (wx y_Mo_worked b_Mo_worked 13 (some .long)) { frames := 2, cells := 0, slots := 0, locals := 43 }).room s m ([.ref aMo, .int (iI v_k), .long v_a, .long v_b, .int (bI v_small)] : List Value).toArray below meth c H_717 locs_717 0 0 (MX below (XQ G classes A (pq_Mo_worked aRf tA tB tC tD tE tF aMo aMo_magic aM1 aM2 aMm aMo_blocks aMo_stack aMo_heights aMo_labels aMo_outs aMo_kinds aMo_lost aMo_memory aMo_globals aMo_values aMo_frameFunction aMo_frameReturn aMo_frameBase aMo_frameLabels aMo_labelAt aMo_labelHeight aMo_tape aMo_arguments zMc zVt zVo zVf zRg zRs zRr zRl zRq zMi R9)) ([.ref aMo, .int (iI v_k), .long v_a, .long v_b, .int (bI v_small)] : List Value).toArray s 0 0 A) (F0 m 194 ls [.int (bI y_30), .ref aMo])) [(aRf, .inr (12, [tA, tB, tC, tD, tE, tF, .int (iI x_28.reason)])), (aMo, .inr (10, [.ref aRf, .ref aMo_magic, .ref aM1, .ref aM2, .ref aMm, .int (iI zMc.cursor), .int (iI zMc.limit), .ref aMo_blocks, .ref aMo_stack, .int (iI zVt.top), .ref aMo_heights, .ref aMo_labels, .ref aMo_outs, .ref aMo_kinds, .ref aMo_lost, .int (iI zVo.depth), .int (iI zVf.function), .ref aMo_memory, .int (iI zRg.pages), .ref aMo_globals, .ref aMo_values, .int (iI zRs.valueTop), .ref aMo_frameFunction, .ref aMo_frameReturn, .ref aMo_frameBase, .ref aMo_frameLabels, .int (iI zRr.frames), .ref aMo_labelAt, .ref aMo_labelHeight, .int (iI zRl.labelTop), .int (iI zRq.steps), .ref aMo_tape, .int (iI zMi.taped), .int (bI zMi.there), .int (iI zMi.reason), .ref aMo_arguments, .int (iI zMi.argumentCount), .int (iI zMi.code)]))] := by
                intro y_30 hy_30 hf H_721 locs_721 hP_721 hD_721 hS_721 ls hl
                clear hS_717 hD_717 hP_717
                replace hf := (congrFun hK_31 y_30).symm.trans hf
                clear hK_31
                refine lv_iconst (v := iI 5) hx hb d_Mo_worked_194 (by decide) ?_
                replace hf := ob2 hnb hf
                rcases hf with ⟨x_32, e_33, hf⟩ | ⟨x_32, e_33, hf⟩
                · refine xx_callV (wc := [(aRf, .inr (12, [tA, tB, tC, tD, tE, tF, .int (iI x_28.reason)])), (aMo, .inr (10, [.ref aRf, .ref aMo_magic, .ref aM1, .ref aM2, .ref aMm, .int (iI zMc.cursor), .int (iI zMc.limit), .ref aMo_blocks, .ref aMo_stack, .int (iI zVt.top), .ref aMo_heights, .ref aMo_labels, .ref aMo_outs, .ref aMo_kinds, .ref aMo_lost, .int (iI zVo.depth), .int (iI zVf.function), .ref aMo_memory, .int (iI zRg.pages), .ref aMo_globals, .ref aMo_values, .int (iI zRs.valueTop), .ref aMo_frameFunction, .ref aMo_frameReturn, .ref aMo_frameBase, .ref aMo_frameLabels, .int (iI zRr.frames), .ref aMo_labelAt, .ref aMo_labelHeight, .int (iI zRl.labelTop), .int (iI zRq.steps), .ref aMo_tape, .int (iI zMi.taped), .int (bI zMi.there), .int (iI zMi.reason), .ref aMo_arguments, .int (iI zMi.argumentCount), .int (iI zMi.code)]))]) (wr := []) (As := [.int (bI y_30), .int (iI 5)]) (rest := []) ⟨hx, hb, hml, hown, hts⟩ xE_st hK hE hA (k_Mo_ends l htr G cB cI cJ cZ cG aRf tA tB tC tD tE tF aMo aMo_magic aM1 aM2 aMm aMo_blocks aMo_stack aMo_heights aMo_labels aMo_outs aMo_kinds aMo_lost aMo_memory aMo_globals aMo_values aMo_frameFunction aMo_frameReturn aMo_frameBase aMo_frameLabels aMo_labelAt aMo_labelHeight aMo_tape aMo_arguments x_28 zMc zVt zVo zVf zRg zRs zRr zRl zRq zMi hx_28 hzMc hzVt hzVo hzVf hzRg hzRs hzRr hzRl hzRq hzMi y_30 5 (show R32 (5) by decide) (.ret x_32) e_33 ret_nb _) (xw_V 2 hts m_1556 m_1558 ms_Mo_ends m_11 m_1559 (by decide +kernel) ⟨(Nat.le_of_ble_eq_true rfl), (Nat.le_of_ble_eq_true rfl)⟩) hP_721 hD_721 hS_721 [0, 1] [] rfl rfl (by decide +kernel) (by decide +kernel) (by decide +kernel) 1 10 rfl rfl rfl rfl hl.1 rfl (Nat.le_of_ble_eq_true rfl) d_Mo_worked_195 ⟨(Nat.le_of_ble_eq_true rfl), (Nat.le_of_ble_eq_true rfl)⟩ (fun v9 w9 H_722 locs_722 hp hP_722 hD_722 hS_722 => ?_) (fun x9 w9 H9 l9 hp _ _ _ => absurd hp (fun q9 => by obtain ⟨-, ho, -⟩ := q9; cases ho))
                  clear hS_721 hD_721 hP_721
                  obtain ⟨hx_32, ho, rfl⟩ := hp
                  cases ho
                  have hQ9 : (fun w9 => va_P G classes w9 H_722 ∧ va_D A w9) [(aRf, .inr (12, [tA, tB, tC, tD, tE, tF, .int (iI x_32.reason)])), (aMo, .inr (10, [.ref aRf, .ref aMo_magic, .ref aM1, .ref aM2, .ref aMm, .int (iI zMc.cursor), .int (iI zMc.limit), .ref aMo_blocks, .ref aMo_stack, .int (iI zVt.top), .ref aMo_heights, .ref aMo_labels, .ref aMo_outs, .ref aMo_kinds, .ref aMo_lost, .int (iI zVo.depth), .int (iI zVf.function), .ref aMo_memory, .int (iI zRg.pages), .ref aMo_globals, .ref aMo_values, .int (iI zRs.valueTop), .ref aMo_frameFunction, .ref aMo_frameReturn, .ref aMo_frameBase, .ref aMo_frameLabels, .int (iI zRr.frames), .ref aMo_labelAt, .ref aMo_labelHeight, .int (iI zRl.labelTop), .int (iI zRq.steps), .ref aMo_tape, .int (iI zMi.taped), .int (bI zMi.there), .int (iI zMi.reason), .ref aMo_arguments, .int (iI zMi.argumentCount), .int (iI zMi.code)]))] := ⟨hP_722, hD_722⟩
                  clear hP_722 hD_722
                  obtain ⟨hP_722, hD_722⟩ := hQ9
                  refine lv_lload_n hx hb d_Mo_worked_198 rfl (lv_at hl 2 rfl) ?_
                  refine lv_lload hx hb d_Mo_worked_199 (lv_at hl 3 rfl) ?_
                  replace hf := grd hnb hf
                  obtain ⟨g_34, hf⟩ := hf
                  refine lv_ldiv hx hb d_Mo_worked_201 g_34 ?_
                  exact ex_W (fun _ h => ex_mq h) (W.lret (v := v_a / v_b) hx hb hr (fun t ht hW => ⟨⟨_, ozr hf ⟨hx_32, rfl, rfl⟩, by rw [ht]; exact hP_722, hD_722⟩, hS_722.F ht⟩) hS_722.2.2 d_Mo_worked_202)
                · refine xx_callV (wc := [(aRf, .inr (12, [tA, tB, tC, tD, tE, tF, .int (iI x_28.reason)])), (aMo, .inr (10, [.ref aRf, .ref aMo_magic, .ref aM1, .ref aM2, .ref aMm, .int (iI zMc.cursor), .int (iI zMc.limit), .ref aMo_blocks, .ref aMo_stack, .int (iI zVt.top), .ref aMo_heights, .ref aMo_labels, .ref aMo_outs, .ref aMo_kinds, .ref aMo_lost, .int (iI zVo.depth), .int (iI zVf.function), .ref aMo_memory, .int (iI zRg.pages), .ref aMo_globals, .ref aMo_values, .int (iI zRs.valueTop), .ref aMo_frameFunction, .ref aMo_frameReturn, .ref aMo_frameBase, .ref aMo_frameLabels, .int (iI zRr.frames), .ref aMo_labelAt, .ref aMo_labelHeight, .int (iI zRl.labelTop), .int (iI zRq.steps), .ref aMo_tape, .int (iI zMi.taped), .int (bI zMi.there), .int (iI zMi.reason), .ref aMo_arguments, .int (iI zMi.argumentCount), .int (iI zMi.code)]))]) (wr := []) (As := [.int (bI y_30), .int (iI 5)]) (rest := []) ⟨hx, hb, hml, hown, hts⟩ xE_st hK hE hA (k_Mo_ends l htr G cB cI cJ cZ cG aRf tA tB tC tD tE tF aMo aMo_magic aM1 aM2 aMm aMo_blocks aMo_stack aMo_heights aMo_labels aMo_outs aMo_kinds aMo_lost aMo_memory aMo_globals aMo_values aMo_frameFunction aMo_frameReturn aMo_frameBase aMo_frameLabels aMo_labelAt aMo_labelHeight aMo_tape aMo_arguments x_28 zMc zVt zVo zVf zRg zRs zRr zRl zRq zMi hx_28 hzMc hzVt hzVo hzVf hzRg hzRs hzRr hzRl hzRq hzMi y_30 5 (show R32 (5) by decide) (.thr x_32) e_33 thr_nb _) (xw_V 2 hts m_1556 m_1558 ms_Mo_ends m_11 m_1559 (by decide +kernel) ⟨(Nat.le_of_ble_eq_true rfl), (Nat.le_of_ble_eq_true rfl)⟩) hP_721 hD_721 hS_721 [0, 1] [] rfl rfl (by decide +kernel) (by decide +kernel) (by decide +kernel) 1 10 rfl rfl rfl rfl hl.1 rfl (Nat.le_of_ble_eq_true rfl) d_Mo_worked_195 ⟨(Nat.le_of_ble_eq_true rfl), (Nat.le_of_ble_eq_true rfl)⟩ (fun v9 w9 H9 l9 hp _ _ _ => absurd hp (fun q9 => by obtain ⟨-, ho, -⟩ := q9; cases ho)) (fun x9 w9 H_723 locs_723 hp hP_723 hD_723 hS_723 => ?_)
                  clear hS_721 hD_721 hP_721
                  obtain ⟨hx_32, ho, rfl⟩ := hp
                  cases ho
                  have hQ9 : (fun w9 => va_P G classes w9 H_723 ∧ va_D A w9) [(aRf, .inr (12, [tA, tB, tC, tD, tE, tF, .int (iI x_32.reason)])), (aMo, .inr (10, [.ref aRf, .ref aMo_magic, .ref aM1, .ref aM2, .ref aMm, .int (iI zMc.cursor), .int (iI zMc.limit), .ref aMo_blocks, .ref aMo_stack, .int (iI zVt.top), .ref aMo_heights, .ref aMo_labels, .ref aMo_outs, .ref aMo_kinds, .ref aMo_lost, .int (iI zVo.depth), .int (iI zVf.function), .ref aMo_memory, .int (iI zRg.pages), .ref aMo_globals, .ref aMo_values, .int (iI zRs.valueTop), .ref aMo_frameFunction, .ref aMo_frameReturn, .ref aMo_frameBase, .ref aMo_frameLabels, .int (iI zRr.frames), .ref aMo_labelAt, .ref aMo_labelHeight, .int (iI zRl.labelTop), .int (iI zRq.steps), .ref aMo_tape, .int (iI zMi.taped), .int (bI zMi.there), .int (iI zMi.reason), .ref aMo_arguments, .int (iI zMi.argumentCount), .int (iI zMi.code)]))] := ⟨hP_723, hD_723⟩
                  clear hP_723 hD_723
                  obtain ⟨hP_723, hD_723⟩ := hQ9
                  exact ex_out rfl rfl rfl (hno _) hlocks (fun t ht hW => ⟨⟨_, ozt hf ⟨hx_32, rfl, rfl⟩, by rw [ht]; exact hP_723, hD_723⟩, hS_723.F ht⟩) hS_723.2.2
              clear hK_31
              refine jpE hf (fun K_36 hK_36 hf9 => ?_)
              replace hf := hf9
              clear hf9
              have hJK_36 : ∀ (y_35 : Unit), True → K_36 y_35 = R9 → ∀ (H_717 : Heap) (locs_717 : List Loc), (fun w9 => va_P G classes w9 H_717 → va_D A w9 → va_S A s.heap H_717 locs_717 → ∀ (ls : Array Slot), lv_has ls 13 [(0, .ref aMo), (1, .int (iI v_k)), (2, .long v_a), (4, .long v_b), (6, .int (bI v_small)), (7, .int (iI y_1)), (8, .int (iI ((v_b.toInt32 &&& (iI (y_1 - 1))).toInt))), (9, .long y_4), (11, .long y_6)] → W p l e (headSpec (wx y_Mo_worked b_Mo_worked 13 (some .long)) { frames := 2, cells := 0, slots := 0, locals := 43 }).room s m ([.ref aMo, .int (iI v_k), .long v_a, .long v_b, .int (bI v_small)] : List Value).toArray below meth c H_717 locs_717 0 0 (MX below (XQ G classes A (pq_Mo_worked aRf tA tB tC tD tE tF aMo aMo_magic aM1 aM2 aMm aMo_blocks aMo_stack aMo_heights aMo_labels aMo_outs aMo_kinds aMo_lost aMo_memory aMo_globals aMo_values aMo_frameFunction aMo_frameReturn aMo_frameBase aMo_frameLabels aMo_labelAt aMo_labelHeight aMo_tape aMo_arguments zMc zVt zVo zVf zRg zRs zRr zRl zRq zMi R9)) ([.ref aMo, .int (iI v_k), .long v_a, .long v_b, .int (bI v_small)] : List Value).toArray s 0 0 A) (F0 m 193 ls [.ref aMo])) [(aRf, .inr (12, [tA, tB, tC, tD, tE, tF, .int (iI x_28.reason)])), (aMo, .inr (10, [.ref aRf, .ref aMo_magic, .ref aM1, .ref aM2, .ref aMm, .int (iI zMc.cursor), .int (iI zMc.limit), .ref aMo_blocks, .ref aMo_stack, .int (iI zVt.top), .ref aMo_heights, .ref aMo_labels, .ref aMo_outs, .ref aMo_kinds, .ref aMo_lost, .int (iI zVo.depth), .int (iI zVf.function), .ref aMo_memory, .int (iI zRg.pages), .ref aMo_globals, .ref aMo_values, .int (iI zRs.valueTop), .ref aMo_frameFunction, .ref aMo_frameReturn, .ref aMo_frameBase, .ref aMo_frameLabels, .int (iI zRr.frames), .ref aMo_labelAt, .ref aMo_labelHeight, .int (iI zRl.labelTop), .int (iI zRq.steps), .ref aMo_tape, .int (iI zMi.taped), .int (bI zMi.there), .int (iI zMi.reason), .ref aMo_arguments, .int (iI zMi.argumentCount), .int (iI zMi.code)]))] := by
                intro y_35 hy_35 hf H_724 locs_724 hP_724 hD_724 hS_724 ls hl
                clear hS_717 hD_717 hP_717
                replace hf := (congrFun hK_36 y_35).symm.trans hf
                clear hK_36
                refine lv_iconst (v := iI 0) hx hb d_Mo_worked_193 (by decide) ?_
                refine W.eq (g2 := F0 m 194 ls [.int (bI false), .ref aMo]) (by rfl) ?_
                exact hJK_31 false trivial hf _ _ hP_724 hD_724 hS_724 _ (lv_sub hl [0, 1, 2, 3, 4, 5, 6, 7, 8] rfl)
              clear hK_36
              refine lv_if_ne (tgt := 193) hx hb d_Mo_worked_167 (by decide) (fun c_37 => ?_) (fun c_37 => ?_)
              · have c_37 := (fun q9 => c_37 ((lc_eq).mpr q9))
                replace hf := ifn c_37 hf
                exact hJK_36 () trivial hf _ _ hP_717 hD_717 hS_717 _ (lv_sub hl [0, 1, 2, 3, 4, 5, 6, 7, 8] rfl)
              · have c_37 := (lc_eq).mp c_37
                replace hf := ifp c_37 hf
                refine lv_lload_n hx hb d_Mo_worked_170 rfl (lv_at hl 2 rfl) ?_
                refine lv_iload hx hb d_Mo_worked_171 (lv_at hl 4 rfl) ?_
                refine jpE hf (fun K_39 hK_39 hf9 => ?_)
                replace hf := hf9
                clear hf9
                have hJK_39 : ∀ (y_38 : Int64), True → K_39 y_38 = R9 → ∀ (H_717 : Heap) (locs_717 : List Loc), (fun w9 => va_P G classes w9 H_717 → va_D A w9 → va_S A s.heap H_717 locs_717 → ∀ (ls : Array Slot), lv_has ls 13 [(0, .ref aMo), (1, .int (iI v_k)), (2, .long v_a), (4, .long v_b), (6, .int (bI v_small)), (7, .int (iI y_1)), (8, .int (iI ((v_b.toInt32 &&& (iI (y_1 - 1))).toInt))), (9, .long y_4), (11, .long y_6)] → W p l e (headSpec (wx y_Mo_worked b_Mo_worked 13 (some .long)) { frames := 2, cells := 0, slots := 0, locals := 43 }).room s m ([.ref aMo, .int (iI v_k), .long v_a, .long v_b, .int (bI v_small)] : List Value).toArray below meth c H_717 locs_717 0 0 (MX below (XQ G classes A (pq_Mo_worked aRf tA tB tC tD tE tF aMo aMo_magic aM1 aM2 aMm aMo_blocks aMo_stack aMo_heights aMo_labels aMo_outs aMo_kinds aMo_lost aMo_memory aMo_globals aMo_values aMo_frameFunction aMo_frameReturn aMo_frameBase aMo_frameLabels aMo_labelAt aMo_labelHeight aMo_tape aMo_arguments zMc zVt zVo zVf zRg zRs zRr zRl zRq zMi R9)) ([.ref aMo, .int (iI v_k), .long v_a, .long v_b, .int (bI v_small)] : List Value).toArray s 0 0 A) (F0 m 185 ls [.long y_38, .long v_a, .ref aMo])) [(aRf, .inr (12, [tA, tB, tC, tD, tE, tF, .int (iI x_28.reason)])), (aMo, .inr (10, [.ref aRf, .ref aMo_magic, .ref aM1, .ref aM2, .ref aMm, .int (iI zMc.cursor), .int (iI zMc.limit), .ref aMo_blocks, .ref aMo_stack, .int (iI zVt.top), .ref aMo_heights, .ref aMo_labels, .ref aMo_outs, .ref aMo_kinds, .ref aMo_lost, .int (iI zVo.depth), .int (iI zVf.function), .ref aMo_memory, .int (iI zRg.pages), .ref aMo_globals, .ref aMo_values, .int (iI zRs.valueTop), .ref aMo_frameFunction, .ref aMo_frameReturn, .ref aMo_frameBase, .ref aMo_frameLabels, .int (iI zRr.frames), .ref aMo_labelAt, .ref aMo_labelHeight, .int (iI zRl.labelTop), .int (iI zRq.steps), .ref aMo_tape, .int (iI zMi.taped), .int (bI zMi.there), .int (iI zMi.reason), .ref aMo_arguments, .int (iI zMi.argumentCount), .int (iI zMi.code)]))] := by
                  intro y_38 hy_38 hf H_725 locs_725 hP_725 hD_725 hS_725 ls hl
                  clear hS_717 hD_717 hP_717
                  replace hf := (congrFun hK_39 y_38).symm.trans hf
                  clear hK_39
                  refine W.lcmp hx hb d_Mo_worked_185 ?_
                  refine lv_if_ne (tgt := 193) hx hb d_Mo_worked_186 (by decide) (fun c_40 => ?_) (fun c_40 => ?_)
                  · have c_40 := (fun q9 => c_40 ((lc_eq).mpr q9))
                    replace hf := ifn c_40 hf
                    exact hJK_36 () trivial hf _ _ hP_725 hD_725 hS_725 _ (lv_sub hl [0, 1, 2, 3, 4, 5, 6, 7, 8] rfl)
                  · have c_40 := (lc_eq).mp c_40
                    replace hf := ifp c_40 hf
                    refine lv_iconst (v := iI 1) hx hb d_Mo_worked_189 (by decide) ?_
                    refine lv_goto (tgt := 194) hx hb d_Mo_worked_190 (by decide) ?_
                    refine W.eq (g2 := F0 m 194 ls [.int (bI true), .ref aMo]) (by rfl) ?_
                    exact hJK_31 true trivial hf _ _ hP_725 hD_725 hS_725 _ (lv_sub hl [0, 1, 2, 3, 4, 5, 6, 7, 8] rfl)
                clear hK_39
                refine lv_if_eq (tgt := 182) hx hb d_Mo_worked_173 (by decide) (fun c_41 => ?_) (fun c_41 => ?_)
                · have c_41 := (zb_f c_41)
                  replace hf := ifn c_41 hf
                  refine lv_ldc2 (v := lMin) hx hb hown (hts _ m_1615) d_Mo_worked_182 ?_
                  exact hJK_39 lMin trivial hf _ _ hP_717 hD_717 hS_717 _ (lv_sub hl [0, 1, 2, 3, 4, 5, 6, 7, 8] rfl)
                · have c_41 := (zb_t c_41)
                  replace hf := ifp c_41 hf
                  refine lv_ldc2 (v := (-2147483648)) hx hb hown (hts _ m_1620) d_Mo_worked_176 ?_
                  refine lv_goto (tgt := 185) hx hb d_Mo_worked_179 (by decide) ?_
                  exact hJK_39 (-2147483648) trivial hf _ _ hP_717 hD_717 hS_717 _ (lv_sub hl [0, 1, 2, 3, 4, 5, 6, 7, 8] rfl)
            · refine xx_callV (wc := [(aRf, .inr (12, [tA, tB, tC, tD, tE, tF, .int (iI zRf.reason)])), (aMo, .inr (10, [.ref aRf, .ref aMo_magic, .ref aM1, .ref aM2, .ref aMm, .int (iI zMc.cursor), .int (iI zMc.limit), .ref aMo_blocks, .ref aMo_stack, .int (iI zVt.top), .ref aMo_heights, .ref aMo_labels, .ref aMo_outs, .ref aMo_kinds, .ref aMo_lost, .int (iI zVo.depth), .int (iI zVf.function), .ref aMo_memory, .int (iI zRg.pages), .ref aMo_globals, .ref aMo_values, .int (iI zRs.valueTop), .ref aMo_frameFunction, .ref aMo_frameReturn, .ref aMo_frameBase, .ref aMo_frameLabels, .int (iI zRr.frames), .ref aMo_labelAt, .ref aMo_labelHeight, .int (iI zRl.labelTop), .int (iI zRq.steps), .ref aMo_tape, .int (iI zMi.taped), .int (bI zMi.there), .int (iI zMi.reason), .ref aMo_arguments, .int (iI zMi.argumentCount), .int (iI zMi.code)]))]) (wr := []) (As := [.int (bI y_26), .int (iI 4)]) (rest := []) ⟨hx, hb, hml, hown, hts⟩ xE_st hK hE hA (k_Mo_ends l htr G cB cI cJ cZ cG aRf tA tB tC tD tE tF aMo aMo_magic aM1 aM2 aMm aMo_blocks aMo_stack aMo_heights aMo_labels aMo_outs aMo_kinds aMo_lost aMo_memory aMo_globals aMo_values aMo_frameFunction aMo_frameReturn aMo_frameBase aMo_frameLabels aMo_labelAt aMo_labelHeight aMo_tape aMo_arguments zRf zMc zVt zVo zVf zRg zRs zRr zRl zRq zMi hzRf hzMc hzVt hzVo hzVf hzRg hzRs hzRr hzRl hzRq hzMi y_26 4 (show R32 (4) by decide) (.thr x_28) e_29 thr_nb _) (xw_V 2 hts m_1556 m_1558 ms_Mo_ends m_11 m_1559 (by decide +kernel) ⟨(Nat.le_of_ble_eq_true rfl), (Nat.le_of_ble_eq_true rfl)⟩) hP_716 hD_716 hS_716 [0, 1] [] rfl rfl (by decide +kernel) (by decide +kernel) (by decide +kernel) 1 10 rfl rfl rfl rfl hl.1 rfl (Nat.le_of_ble_eq_true rfl) d_Mo_worked_157 ⟨(Nat.le_of_ble_eq_true rfl), (Nat.le_of_ble_eq_true rfl)⟩ (fun v9 w9 H9 l9 hp _ _ _ => absurd hp (fun q9 => by obtain ⟨-, ho, -⟩ := q9; cases ho)) (fun x9 w9 H_726 locs_726 hp hP_726 hD_726 hS_726 => ?_)
              clear hS_716 hD_716 hP_716
              obtain ⟨hx_28, ho, rfl⟩ := hp
              cases ho
              have hQ9 : (fun w9 => va_P G classes w9 H_726 ∧ va_D A w9) [(aRf, .inr (12, [tA, tB, tC, tD, tE, tF, .int (iI x_28.reason)])), (aMo, .inr (10, [.ref aRf, .ref aMo_magic, .ref aM1, .ref aM2, .ref aMm, .int (iI zMc.cursor), .int (iI zMc.limit), .ref aMo_blocks, .ref aMo_stack, .int (iI zVt.top), .ref aMo_heights, .ref aMo_labels, .ref aMo_outs, .ref aMo_kinds, .ref aMo_lost, .int (iI zVo.depth), .int (iI zVf.function), .ref aMo_memory, .int (iI zRg.pages), .ref aMo_globals, .ref aMo_values, .int (iI zRs.valueTop), .ref aMo_frameFunction, .ref aMo_frameReturn, .ref aMo_frameBase, .ref aMo_frameLabels, .int (iI zRr.frames), .ref aMo_labelAt, .ref aMo_labelHeight, .int (iI zRl.labelTop), .int (iI zRq.steps), .ref aMo_tape, .int (iI zMi.taped), .int (bI zMi.there), .int (iI zMi.reason), .ref aMo_arguments, .int (iI zMi.argumentCount), .int (iI zMi.code)]))] := ⟨hP_726, hD_726⟩
              clear hP_726 hD_726
              obtain ⟨hP_726, hD_726⟩ := hQ9
              exact ex_out rfl rfl rfl (hno _) hlocks (fun t ht hW => ⟨⟨_, ozt hf ⟨hx_28, rfl, rfl⟩, by rw [ht]; exact hP_726, hD_726⟩, hS_726.F ht⟩) hS_726.2.2
          clear hK_27
          refine lv_if_ne (tgt := 155) hx hb d_Mo_worked_148 (by decide) (fun c_42 => ?_) (fun c_42 => ?_)
          · have c_42 := (fun q9 => c_42 ((lc_eq).mpr q9))
            replace hf := ifn c_42 hf
            refine lv_iconst (v := iI 0) hx hb d_Mo_worked_155 (by decide) ?_
            refine W.eq (g2 := F0 m 156 ls [.int (bI false), .ref aMo]) (by rfl) ?_
            exact hJK_27 false trivial hf _ _ hP_644 hD_644 hS_644 _ (lv_sub hl [1, 2, 3, 4, 5, 6, 7, 8, 0] rfl)
          · have c_42 := (lc_eq).mp c_42
            replace hf := ifp c_42 hf
            refine lv_iconst (v := iI 1) hx hb d_Mo_worked_151 (by decide) ?_
            refine lv_goto (tgt := 156) hx hb d_Mo_worked_152 (by decide) ?_
            refine W.eq (g2 := F0 m 156 ls [.int (bI true), .ref aMo]) (by rfl) ?_
            exact hJK_27 true trivial hf _ _ hP_644 hD_644 hS_644 _ (lv_sub hl [1, 2, 3, 4, 5, 6, 7, 8, 0] rfl)
        replace hf := ifn q_25 hf
        rcases Decidable.em (v_k = 110) with q_43 | q_43
        · replace hf := ifp q_43 hf
          refine lv_tableIn (off := 144) (tgt := 203) hx hb d_Mo_worked_59 (by rw [(iI_t hv_k).trans q_43]; decide) (by rw [(iI_t hv_k).trans q_43]; decide) (by rw [(iI_t hv_k).trans q_43]; rfl) (by decide) ?_
          exact hJK_9 () trivial hf _ _ hP_644 hD_644 hS_644 _ (lv_sub hl [1, 2, 3, 4, 5, 6, 7, 8, 0] rfl)
        replace hf := ifn q_43 hf
        rcases Decidable.em (v_k = 111) with q_44 | q_44
        · replace hf := ifp q_44 hf
          refine lv_tableIn (off := 191) (tgt := 250) hx hb d_Mo_worked_59 (by rw [(iI_t hv_k).trans q_44]; decide) (by rw [(iI_t hv_k).trans q_44]; decide) (by rw [(iI_t hv_k).trans q_44]; rfl) (by decide) ?_
          refine lv_aload_n hx hb d_Mo_worked_250 rfl (lv_at hl 1 rfl) ?_
          refine lv_lload hx hb d_Mo_worked_251 (lv_at hl 4 rfl) ?_
          refine lv_lconst (v := 0) hx hb d_Mo_worked_253 (by decide) ?_
          refine W.lcmp hx hb d_Mo_worked_254 ?_
          refine jpE hf (fun K_46 hK_46 hf9 => ?_)
          replace hf := hf9
          clear hf9
          have hJK_46 : ∀ (y_45 : Bool), True → K_46 y_45 = R9 → ∀ (H_644 : Heap) (locs_644 : List Loc), (fun w9 => va_P G classes w9 H_644 → va_D A w9 → va_S A s.heap H_644 locs_644 → ∀ (ls : Array Slot), lv_has ls 13 [(0, .ref aMo), (1, .int (iI v_k)), (2, .long v_a), (4, .long v_b), (6, .int (bI v_small)), (7, .int (iI y_1)), (8, .int (iI ((v_b.toInt32 &&& (iI (y_1 - 1))).toInt))), (9, .long y_4), (11, .long y_6)] → W p l e (headSpec (wx y_Mo_worked b_Mo_worked 13 (some .long)) { frames := 2, cells := 0, slots := 0, locals := 43 }).room s m ([.ref aMo, .int (iI v_k), .long v_a, .long v_b, .int (bI v_small)] : List Value).toArray below meth c H_644 locs_644 0 0 (MX below (XQ G classes A (pq_Mo_worked aRf tA tB tC tD tE tF aMo aMo_magic aM1 aM2 aMm aMo_blocks aMo_stack aMo_heights aMo_labels aMo_outs aMo_kinds aMo_lost aMo_memory aMo_globals aMo_values aMo_frameFunction aMo_frameReturn aMo_frameBase aMo_frameLabels aMo_labelAt aMo_labelHeight aMo_tape aMo_arguments zMc zVt zVo zVf zRg zRs zRr zRl zRq zMi R9)) ([.ref aMo, .int (iI v_k), .long v_a, .long v_b, .int (bI v_small)] : List Value).toArray s 0 0 A) (F0 m 263 ls [.int (bI y_45), .ref aMo])) [(aRf, .inr (12, [tA, tB, tC, tD, tE, tF, .int (iI zRf.reason)])), (aMo, .inr (10, [.ref aRf, .ref aMo_magic, .ref aM1, .ref aM2, .ref aMm, .int (iI zMc.cursor), .int (iI zMc.limit), .ref aMo_blocks, .ref aMo_stack, .int (iI zVt.top), .ref aMo_heights, .ref aMo_labels, .ref aMo_outs, .ref aMo_kinds, .ref aMo_lost, .int (iI zVo.depth), .int (iI zVf.function), .ref aMo_memory, .int (iI zRg.pages), .ref aMo_globals, .ref aMo_values, .int (iI zRs.valueTop), .ref aMo_frameFunction, .ref aMo_frameReturn, .ref aMo_frameBase, .ref aMo_frameLabels, .int (iI zRr.frames), .ref aMo_labelAt, .ref aMo_labelHeight, .int (iI zRl.labelTop), .int (iI zRq.steps), .ref aMo_tape, .int (iI zMi.taped), .int (bI zMi.there), .int (iI zMi.reason), .ref aMo_arguments, .int (iI zMi.argumentCount), .int (iI zMi.code)]))] := by
            intro y_45 hy_45 hf H_730 locs_730 hP_730 hD_730 hS_730 ls hl
            clear hS_644 hD_644 hP_644
            replace hf := (congrFun hK_46 y_45).symm.trans hf
            clear hK_46
            refine lv_iconst (v := iI 4) hx hb d_Mo_worked_263 (by decide) ?_
            replace hf := ob2 hnb hf
            rcases hf with ⟨x_47, e_48, hf⟩ | ⟨x_47, e_48, hf⟩
            · refine xx_callV (wc := [(aRf, .inr (12, [tA, tB, tC, tD, tE, tF, .int (iI zRf.reason)])), (aMo, .inr (10, [.ref aRf, .ref aMo_magic, .ref aM1, .ref aM2, .ref aMm, .int (iI zMc.cursor), .int (iI zMc.limit), .ref aMo_blocks, .ref aMo_stack, .int (iI zVt.top), .ref aMo_heights, .ref aMo_labels, .ref aMo_outs, .ref aMo_kinds, .ref aMo_lost, .int (iI zVo.depth), .int (iI zVf.function), .ref aMo_memory, .int (iI zRg.pages), .ref aMo_globals, .ref aMo_values, .int (iI zRs.valueTop), .ref aMo_frameFunction, .ref aMo_frameReturn, .ref aMo_frameBase, .ref aMo_frameLabels, .int (iI zRr.frames), .ref aMo_labelAt, .ref aMo_labelHeight, .int (iI zRl.labelTop), .int (iI zRq.steps), .ref aMo_tape, .int (iI zMi.taped), .int (bI zMi.there), .int (iI zMi.reason), .ref aMo_arguments, .int (iI zMi.argumentCount), .int (iI zMi.code)]))]) (wr := []) (As := [.int (bI y_45), .int (iI 4)]) (rest := []) ⟨hx, hb, hml, hown, hts⟩ xE_st hK hE hA (k_Mo_ends l htr G cB cI cJ cZ cG aRf tA tB tC tD tE tF aMo aMo_magic aM1 aM2 aMm aMo_blocks aMo_stack aMo_heights aMo_labels aMo_outs aMo_kinds aMo_lost aMo_memory aMo_globals aMo_values aMo_frameFunction aMo_frameReturn aMo_frameBase aMo_frameLabels aMo_labelAt aMo_labelHeight aMo_tape aMo_arguments zRf zMc zVt zVo zVf zRg zRs zRr zRl zRq zMi hzRf hzMc hzVt hzVo hzVf hzRg hzRs hzRr hzRl hzRq hzMi y_45 4 (show R32 (4) by decide) (.ret x_47) e_48 ret_nb _) (xw_V 2 hts m_1556 m_1558 ms_Mo_ends m_11 m_1559 (by decide +kernel) ⟨(Nat.le_of_ble_eq_true rfl), (Nat.le_of_ble_eq_true rfl)⟩) hP_730 hD_730 hS_730 [0, 1] [] rfl rfl (by decide +kernel) (by decide +kernel) (by decide +kernel) 1 10 rfl rfl rfl rfl hl.1 rfl (Nat.le_of_ble_eq_true rfl) d_Mo_worked_264 ⟨(Nat.le_of_ble_eq_true rfl), (Nat.le_of_ble_eq_true rfl)⟩ (fun v9 w9 H_731 locs_731 hp hP_731 hD_731 hS_731 => ?_) (fun x9 w9 H9 l9 hp _ _ _ => absurd hp (fun q9 => by obtain ⟨-, ho, -⟩ := q9; cases ho))
              clear hS_730 hD_730 hP_730
              obtain ⟨hx_47, ho, rfl⟩ := hp
              cases ho
              have hQ9 : (fun w9 => va_P G classes w9 H_731 ∧ va_D A w9) [(aRf, .inr (12, [tA, tB, tC, tD, tE, tF, .int (iI x_47.reason)])), (aMo, .inr (10, [.ref aRf, .ref aMo_magic, .ref aM1, .ref aM2, .ref aMm, .int (iI zMc.cursor), .int (iI zMc.limit), .ref aMo_blocks, .ref aMo_stack, .int (iI zVt.top), .ref aMo_heights, .ref aMo_labels, .ref aMo_outs, .ref aMo_kinds, .ref aMo_lost, .int (iI zVo.depth), .int (iI zVf.function), .ref aMo_memory, .int (iI zRg.pages), .ref aMo_globals, .ref aMo_values, .int (iI zRs.valueTop), .ref aMo_frameFunction, .ref aMo_frameReturn, .ref aMo_frameBase, .ref aMo_frameLabels, .int (iI zRr.frames), .ref aMo_labelAt, .ref aMo_labelHeight, .int (iI zRl.labelTop), .int (iI zRq.steps), .ref aMo_tape, .int (iI zMi.taped), .int (bI zMi.there), .int (iI zMi.reason), .ref aMo_arguments, .int (iI zMi.argumentCount), .int (iI zMi.code)]))] := ⟨hP_731, hD_731⟩
              clear hP_731 hD_731
              obtain ⟨hP_731, hD_731⟩ := hQ9
              refine lv_lload hx hb d_Mo_worked_267 (lv_at hl 3 rfl) ?_
              refine lv_ldc2 (v := (-1)) hx hb hown (hts _ m_1598) d_Mo_worked_269 ?_
              refine W.lcmp hx hb d_Mo_worked_272 ?_
              refine jpE hf (fun K_50 hK_50 hf9 => ?_)
              replace hf := hf9
              clear hf9
              have hJK_50 : ∀ (y_49 : Int64), True → K_50 y_49 = R9 → ∀ (H_731 : Heap) (locs_731 : List Loc), (fun w9 => va_P G classes w9 H_731 → va_D A w9 → va_S A s.heap H_731 locs_731 → ∀ (ls : Array Slot), lv_has ls 13 [(0, .ref aMo), (1, .int (iI v_k)), (2, .long v_a), (4, .long v_b), (6, .int (bI v_small)), (7, .int (iI y_1)), (8, .int (iI ((v_b.toInt32 &&& (iI (y_1 - 1))).toInt))), (9, .long y_4), (11, .long y_6)] → W p l e (headSpec (wx y_Mo_worked b_Mo_worked 13 (some .long)) { frames := 2, cells := 0, slots := 0, locals := 43 }).room s m ([.ref aMo, .int (iI v_k), .long v_a, .long v_b, .int (bI v_small)] : List Value).toArray below meth c H_731 locs_731 0 0 (MX below (XQ G classes A (pq_Mo_worked aRf tA tB tC tD tE tF aMo aMo_magic aM1 aM2 aMm aMo_blocks aMo_stack aMo_heights aMo_labels aMo_outs aMo_kinds aMo_lost aMo_memory aMo_globals aMo_values aMo_frameFunction aMo_frameReturn aMo_frameBase aMo_frameLabels aMo_labelAt aMo_labelHeight aMo_tape aMo_arguments zMc zVt zVo zVf zRg zRs zRr zRl zRq zMi R9)) ([.ref aMo, .int (iI v_k), .long v_a, .long v_b, .int (bI v_small)] : List Value).toArray s 0 0 A) (F0 m 284 ls [.long y_49])) [(aRf, .inr (12, [tA, tB, tC, tD, tE, tF, .int (iI x_47.reason)])), (aMo, .inr (10, [.ref aRf, .ref aMo_magic, .ref aM1, .ref aM2, .ref aMm, .int (iI zMc.cursor), .int (iI zMc.limit), .ref aMo_blocks, .ref aMo_stack, .int (iI zVt.top), .ref aMo_heights, .ref aMo_labels, .ref aMo_outs, .ref aMo_kinds, .ref aMo_lost, .int (iI zVo.depth), .int (iI zVf.function), .ref aMo_memory, .int (iI zRg.pages), .ref aMo_globals, .ref aMo_values, .int (iI zRs.valueTop), .ref aMo_frameFunction, .ref aMo_frameReturn, .ref aMo_frameBase, .ref aMo_frameLabels, .int (iI zRr.frames), .ref aMo_labelAt, .ref aMo_labelHeight, .int (iI zRl.labelTop), .int (iI zRq.steps), .ref aMo_tape, .int (iI zMi.taped), .int (bI zMi.there), .int (iI zMi.reason), .ref aMo_arguments, .int (iI zMi.argumentCount), .int (iI zMi.code)]))] := by
                intro y_49 hy_49 hf H_732 locs_732 hP_732 hD_732 hS_732 ls hl
                clear hS_731 hD_731 hP_731
                replace hf := (congrFun hK_50 y_49).symm.trans hf
                clear hK_50
                exact ex_W (fun _ h => ex_mq h) (W.lret (v := y_49) hx hb hr (fun t ht hW => ⟨⟨_, ozr hf ⟨hx_47, rfl, rfl⟩, by rw [ht]; exact hP_732, hD_732⟩, hS_732.F ht⟩) hS_732.2.2 d_Mo_worked_284)
              clear hK_50
              refine lv_if_ne (tgt := 280) hx hb d_Mo_worked_273 (by decide) (fun c_51 => ?_) (fun c_51 => ?_)
              · have c_51 := (fun q9 => c_51 ((lc_eq).mpr q9))
                replace hf := ifn c_51 hf
                refine lv_lload_n hx hb d_Mo_worked_280 rfl (lv_at hl 2 rfl) ?_
                refine lv_lload hx hb d_Mo_worked_281 (lv_at hl 3 rfl) ?_
                replace hf := grd hnb hf
                obtain ⟨g_52, hf⟩ := hf
                refine lv_lrem hx hb d_Mo_worked_283 g_52 ?_
                exact hJK_50 (v_a - (v_a / v_b) * v_b) trivial hf _ _ hP_731 hD_731 hS_731 _ (lv_sub hl [0, 1, 2, 3, 4, 5, 6, 7, 8] rfl)
              · have c_51 := (lc_eq).mp c_51
                replace hf := ifp c_51 hf
                refine lv_lconst (v := 0) hx hb d_Mo_worked_276 (by decide) ?_
                refine lv_goto (tgt := 284) hx hb d_Mo_worked_277 (by decide) ?_
                exact hJK_50 0 trivial hf _ _ hP_731 hD_731 hS_731 _ (lv_sub hl [0, 1, 2, 3, 4, 5, 6, 7, 8] rfl)
            · refine xx_callV (wc := [(aRf, .inr (12, [tA, tB, tC, tD, tE, tF, .int (iI zRf.reason)])), (aMo, .inr (10, [.ref aRf, .ref aMo_magic, .ref aM1, .ref aM2, .ref aMm, .int (iI zMc.cursor), .int (iI zMc.limit), .ref aMo_blocks, .ref aMo_stack, .int (iI zVt.top), .ref aMo_heights, .ref aMo_labels, .ref aMo_outs, .ref aMo_kinds, .ref aMo_lost, .int (iI zVo.depth), .int (iI zVf.function), .ref aMo_memory, .int (iI zRg.pages), .ref aMo_globals, .ref aMo_values, .int (iI zRs.valueTop), .ref aMo_frameFunction, .ref aMo_frameReturn, .ref aMo_frameBase, .ref aMo_frameLabels, .int (iI zRr.frames), .ref aMo_labelAt, .ref aMo_labelHeight, .int (iI zRl.labelTop), .int (iI zRq.steps), .ref aMo_tape, .int (iI zMi.taped), .int (bI zMi.there), .int (iI zMi.reason), .ref aMo_arguments, .int (iI zMi.argumentCount), .int (iI zMi.code)]))]) (wr := []) (As := [.int (bI y_45), .int (iI 4)]) (rest := []) ⟨hx, hb, hml, hown, hts⟩ xE_st hK hE hA (k_Mo_ends l htr G cB cI cJ cZ cG aRf tA tB tC tD tE tF aMo aMo_magic aM1 aM2 aMm aMo_blocks aMo_stack aMo_heights aMo_labels aMo_outs aMo_kinds aMo_lost aMo_memory aMo_globals aMo_values aMo_frameFunction aMo_frameReturn aMo_frameBase aMo_frameLabels aMo_labelAt aMo_labelHeight aMo_tape aMo_arguments zRf zMc zVt zVo zVf zRg zRs zRr zRl zRq zMi hzRf hzMc hzVt hzVo hzVf hzRg hzRs hzRr hzRl hzRq hzMi y_45 4 (show R32 (4) by decide) (.thr x_47) e_48 thr_nb _) (xw_V 2 hts m_1556 m_1558 ms_Mo_ends m_11 m_1559 (by decide +kernel) ⟨(Nat.le_of_ble_eq_true rfl), (Nat.le_of_ble_eq_true rfl)⟩) hP_730 hD_730 hS_730 [0, 1] [] rfl rfl (by decide +kernel) (by decide +kernel) (by decide +kernel) 1 10 rfl rfl rfl rfl hl.1 rfl (Nat.le_of_ble_eq_true rfl) d_Mo_worked_264 ⟨(Nat.le_of_ble_eq_true rfl), (Nat.le_of_ble_eq_true rfl)⟩ (fun v9 w9 H9 l9 hp _ _ _ => absurd hp (fun q9 => by obtain ⟨-, ho, -⟩ := q9; cases ho)) (fun x9 w9 H_733 locs_733 hp hP_733 hD_733 hS_733 => ?_)
              clear hS_730 hD_730 hP_730
              obtain ⟨hx_47, ho, rfl⟩ := hp
              cases ho
              have hQ9 : (fun w9 => va_P G classes w9 H_733 ∧ va_D A w9) [(aRf, .inr (12, [tA, tB, tC, tD, tE, tF, .int (iI x_47.reason)])), (aMo, .inr (10, [.ref aRf, .ref aMo_magic, .ref aM1, .ref aM2, .ref aMm, .int (iI zMc.cursor), .int (iI zMc.limit), .ref aMo_blocks, .ref aMo_stack, .int (iI zVt.top), .ref aMo_heights, .ref aMo_labels, .ref aMo_outs, .ref aMo_kinds, .ref aMo_lost, .int (iI zVo.depth), .int (iI zVf.function), .ref aMo_memory, .int (iI zRg.pages), .ref aMo_globals, .ref aMo_values, .int (iI zRs.valueTop), .ref aMo_frameFunction, .ref aMo_frameReturn, .ref aMo_frameBase, .ref aMo_frameLabels, .int (iI zRr.frames), .ref aMo_labelAt, .ref aMo_labelHeight, .int (iI zRl.labelTop), .int (iI zRq.steps), .ref aMo_tape, .int (iI zMi.taped), .int (bI zMi.there), .int (iI zMi.reason), .ref aMo_arguments, .int (iI zMi.argumentCount), .int (iI zMi.code)]))] := ⟨hP_733, hD_733⟩
              clear hP_733 hD_733
              obtain ⟨hP_733, hD_733⟩ := hQ9
              exact ex_out rfl rfl rfl (hno _) hlocks (fun t ht hW => ⟨⟨_, ozt hf ⟨hx_47, rfl, rfl⟩, by rw [ht]; exact hP_733, hD_733⟩, hS_733.F ht⟩) hS_733.2.2
          clear hK_46
          refine lv_if_ne (tgt := 262) hx hb d_Mo_worked_255 (by decide) (fun c_53 => ?_) (fun c_53 => ?_)
          · have c_53 := (fun q9 => c_53 ((lc_eq).mpr q9))
            replace hf := ifn c_53 hf
            refine lv_iconst (v := iI 0) hx hb d_Mo_worked_262 (by decide) ?_
            refine W.eq (g2 := F0 m 263 ls [.int (bI false), .ref aMo]) (by rfl) ?_
            exact hJK_46 false trivial hf _ _ hP_644 hD_644 hS_644 _ (lv_sub hl [1, 2, 3, 4, 5, 6, 7, 8, 0] rfl)
          · have c_53 := (lc_eq).mp c_53
            replace hf := ifp c_53 hf
            refine lv_iconst (v := iI 1) hx hb d_Mo_worked_258 (by decide) ?_
            refine lv_goto (tgt := 263) hx hb d_Mo_worked_259 (by decide) ?_
            refine W.eq (g2 := F0 m 263 ls [.int (bI true), .ref aMo]) (by rfl) ?_
            exact hJK_46 true trivial hf _ _ hP_644 hD_644 hS_644 _ (lv_sub hl [1, 2, 3, 4, 5, 6, 7, 8, 0] rfl)
        replace hf := ifn q_44 hf
        rcases Decidable.em (v_k = 112) with q_54 | q_54
        · replace hf := ifp q_54 hf
          refine lv_tableIn (off := 144) (tgt := 203) hx hb d_Mo_worked_59 (by rw [(iI_t hv_k).trans q_54]; decide) (by rw [(iI_t hv_k).trans q_54]; decide) (by rw [(iI_t hv_k).trans q_54]; rfl) (by decide) ?_
          exact hJK_9 () trivial hf _ _ hP_644 hD_644 hS_644 _ (lv_sub hl [1, 2, 3, 4, 5, 6, 7, 8, 0] rfl)
        replace hf := ifn q_54 hf
        rcases Decidable.em (v_k = 113) with q_55 | q_55
        · replace hf := ifp q_55 hf
          refine lv_tableIn (off := 226) (tgt := 285) hx hb d_Mo_worked_59 (by rw [(iI_t hv_k).trans q_55]; decide) (by rw [(iI_t hv_k).trans q_55]; decide) (by rw [(iI_t hv_k).trans q_55]; rfl) (by decide) ?_
          refine lv_lload_n hx hb d_Mo_worked_285 rfl (lv_at hl 3 rfl) ?_
          refine lv_lload hx hb d_Mo_worked_286 (lv_at hl 4 rfl) ?_
          refine lv_land hx hb d_Mo_worked_288 ?_
          exact ex_W (fun _ h => ex_mq h) (W.lret (v := v_a &&& v_b) hx hb hr (fun t ht hW => ⟨⟨_, ozr hf ⟨hzRf, rfl, rfl⟩, by rw [ht]; exact hP_644, hD_644⟩, hS_644.F ht⟩) hS_644.2.2 d_Mo_worked_289)
        replace hf := ifn q_55 hf
        rcases Decidable.em (v_k = 114) with q_56 | q_56
        · replace hf := ifp q_56 hf
          refine lv_tableIn (off := 231) (tgt := 290) hx hb d_Mo_worked_59 (by rw [(iI_t hv_k).trans q_56]; decide) (by rw [(iI_t hv_k).trans q_56]; decide) (by rw [(iI_t hv_k).trans q_56]; rfl) (by decide) ?_
          refine lv_lload_n hx hb d_Mo_worked_290 rfl (lv_at hl 3 rfl) ?_
          refine lv_lload hx hb d_Mo_worked_291 (lv_at hl 4 rfl) ?_
          refine lv_lor hx hb d_Mo_worked_293 ?_
          exact ex_W (fun _ h => ex_mq h) (W.lret (v := v_a ||| v_b) hx hb hr (fun t ht hW => ⟨⟨_, ozr hf ⟨hzRf, rfl, rfl⟩, by rw [ht]; exact hP_644, hD_644⟩, hS_644.F ht⟩) hS_644.2.2 d_Mo_worked_294)
        replace hf := ifn q_56 hf
        rcases Decidable.em (v_k = 115) with q_57 | q_57
        · replace hf := ifp q_57 hf
          refine lv_tableIn (off := 236) (tgt := 295) hx hb d_Mo_worked_59 (by rw [(iI_t hv_k).trans q_57]; decide) (by rw [(iI_t hv_k).trans q_57]; decide) (by rw [(iI_t hv_k).trans q_57]; rfl) (by decide) ?_
          refine lv_lload_n hx hb d_Mo_worked_295 rfl (lv_at hl 3 rfl) ?_
          refine lv_lload hx hb d_Mo_worked_296 (lv_at hl 4 rfl) ?_
          refine lv_lxor hx hb d_Mo_worked_298 ?_
          exact ex_W (fun _ h => ex_mq h) (W.lret (v := v_a ^^^ v_b) hx hb hr (fun t ht hW => ⟨⟨_, ozr hf ⟨hzRf, rfl, rfl⟩, by rw [ht]; exact hP_644, hD_644⟩, hS_644.F ht⟩) hS_644.2.2 d_Mo_worked_299)
        replace hf := ifn q_57 hf
        rcases Decidable.em (v_k = 116) with q_58 | q_58
        · replace hf := ifp q_58 hf
          refine lv_tableIn (off := 241) (tgt := 300) hx hb d_Mo_worked_59 (by rw [(iI_t hv_k).trans q_58]; decide) (by rw [(iI_t hv_k).trans q_58]; decide) (by rw [(iI_t hv_k).trans q_58]; rfl) (by decide) ?_
          refine lv_lload_n hx hb d_Mo_worked_300 rfl (lv_at hl 3 rfl) ?_
          refine lv_iload hx hb d_Mo_worked_301 (lv_at hl 7 rfl) ?_
          refine lv_lshl hx hb d_Mo_worked_303 rfl ?_
          exact ex_W (fun _ h => ex_mq h) (W.lret (v := v_a <<< ((iI ((v_b.toInt32 &&& (iI (y_1 - 1))).toInt)).toInt64 &&& 63)) hx hb hr (fun t ht hW => ⟨⟨_, ozr hf ⟨hzRf, rfl, rfl⟩, by rw [ht]; exact hP_644, hD_644⟩, hS_644.F ht⟩) hS_644.2.2 d_Mo_worked_304)
        replace hf := ifn q_58 hf
        rcases Decidable.em (v_k = 117) with q_59 | q_59
        · replace hf := ifp q_59 hf
          refine lv_tableIn (off := 246) (tgt := 305) hx hb d_Mo_worked_59 (by rw [(iI_t hv_k).trans q_59]; decide) (by rw [(iI_t hv_k).trans q_59]; decide) (by rw [(iI_t hv_k).trans q_59]; rfl) (by decide) ?_
          refine lv_lload_n hx hb d_Mo_worked_305 rfl (lv_at hl 3 rfl) ?_
          refine lv_iload hx hb d_Mo_worked_306 (lv_at hl 7 rfl) ?_
          refine lv_lshr hx hb d_Mo_worked_308 rfl ?_
          exact ex_W (fun _ h => ex_mq h) (W.lret (v := v_a >>> ((iI ((v_b.toInt32 &&& (iI (y_1 - 1))).toInt)).toInt64 &&& 63)) hx hb hr (fun t ht hW => ⟨⟨_, ozr hf ⟨hzRf, rfl, rfl⟩, by rw [ht]; exact hP_644, hD_644⟩, hS_644.F ht⟩) hS_644.2.2 d_Mo_worked_309)
        replace hf := ifn q_59 hf
        rcases Decidable.em (v_k = 118) with q_60 | q_60
        · replace hf := ifp q_60 hf
          refine lv_tableIn (off := 251) (tgt := 310) hx hb d_Mo_worked_59 (by rw [(iI_t hv_k).trans q_60]; decide) (by rw [(iI_t hv_k).trans q_60]; decide) (by rw [(iI_t hv_k).trans q_60]; rfl) (by decide) ?_
          refine lv_lload hx hb d_Mo_worked_310 (lv_at hl 8 rfl) ?_
          refine lv_iload hx hb d_Mo_worked_312 (lv_at hl 7 rfl) ?_
          refine lv_lushr hx hb d_Mo_worked_314 rfl ?_
          exact ex_W (fun _ h => ex_mq h) (W.lret (v := (y_4.toUInt64 >>> ((iI ((v_b.toInt32 &&& (iI (y_1 - 1))).toInt)).toInt64.toUInt64 &&& Int64.toUInt64 63)).toInt64) hx hb hr (fun t ht hW => ⟨⟨_, ozr hf ⟨hzRf, rfl, rfl⟩, by rw [ht]; exact hP_644, hD_644⟩, hS_644.F ht⟩) hS_644.2.2 d_Mo_worked_315)
        replace hf := ifn q_60 hf
        rcases Decidable.em (v_k = 119) with q_61 | q_61
        · replace hf := ifp q_61 hf
          refine lv_tableIn (off := 257) (tgt := 316) hx hb d_Mo_worked_59 (by rw [(iI_t hv_k).trans q_61]; decide) (by rw [(iI_t hv_k).trans q_61]; decide) (by rw [(iI_t hv_k).trans q_61]; rfl) (by decide) ?_
          refine lv_iload hx hb d_Mo_worked_316 (lv_at hl 7 rfl) ?_
          refine jpE hf (fun K_63 hK_63 hf9 => ?_)
          replace hf := hf9
          clear hf9
          have hJK_63 : ∀ (y_62 : Int64), True → K_63 y_62 = R9 → ∀ (H_644 : Heap) (locs_644 : List Loc), (fun w9 => va_P G classes w9 H_644 → va_D A w9 → va_S A s.heap H_644 locs_644 → ∀ (ls : Array Slot), lv_has ls 13 [(0, .ref aMo), (1, .int (iI v_k)), (2, .long v_a), (4, .long v_b), (6, .int (bI v_small)), (7, .int (iI y_1)), (8, .int (iI ((v_b.toInt32 &&& (iI (y_1 - 1))).toInt))), (9, .long y_4), (11, .long y_6)] → W p l e (headSpec (wx y_Mo_worked b_Mo_worked 13 (some .long)) { frames := 2, cells := 0, slots := 0, locals := 43 }).room s m ([.ref aMo, .int (iI v_k), .long v_a, .long v_b, .int (bI v_small)] : List Value).toArray below meth c H_644 locs_644 0 0 (MX below (XQ G classes A (pq_Mo_worked aRf tA tB tC tD tE tF aMo aMo_magic aM1 aM2 aMm aMo_blocks aMo_stack aMo_heights aMo_labels aMo_outs aMo_kinds aMo_lost aMo_memory aMo_globals aMo_values aMo_frameFunction aMo_frameReturn aMo_frameBase aMo_frameLabels aMo_labelAt aMo_labelHeight aMo_tape aMo_arguments zMc zVt zVo zVf zRg zRs zRr zRl zRq zMi R9)) ([.ref aMo, .int (iI v_k), .long v_a, .long v_b, .int (bI v_small)] : List Value).toArray s 0 0 A) (F0 m 339 ls [.long y_62])) [(aRf, .inr (12, [tA, tB, tC, tD, tE, tF, .int (iI zRf.reason)])), (aMo, .inr (10, [.ref aRf, .ref aMo_magic, .ref aM1, .ref aM2, .ref aMm, .int (iI zMc.cursor), .int (iI zMc.limit), .ref aMo_blocks, .ref aMo_stack, .int (iI zVt.top), .ref aMo_heights, .ref aMo_labels, .ref aMo_outs, .ref aMo_kinds, .ref aMo_lost, .int (iI zVo.depth), .int (iI zVf.function), .ref aMo_memory, .int (iI zRg.pages), .ref aMo_globals, .ref aMo_values, .int (iI zRs.valueTop), .ref aMo_frameFunction, .ref aMo_frameReturn, .ref aMo_frameBase, .ref aMo_frameLabels, .int (iI zRr.frames), .ref aMo_labelAt, .ref aMo_labelHeight, .int (iI zRl.labelTop), .int (iI zRq.steps), .ref aMo_tape, .int (iI zMi.taped), .int (bI zMi.there), .int (iI zMi.reason), .ref aMo_arguments, .int (iI zMi.argumentCount), .int (iI zMi.code)]))] := by
            intro y_62 hy_62 hf H_734 locs_734 hP_734 hD_734 hS_734 ls hl
            clear hS_644 hD_644 hP_644
            replace hf := (congrFun hK_63 y_62).symm.trans hf
            clear hK_63
            exact ex_W (fun _ h => ex_mq h) (W.lret (v := y_62) hx hb hr (fun t ht hW => ⟨⟨_, ozr hf ⟨hzRf, rfl, rfl⟩, by rw [ht]; exact hP_734, hD_734⟩, hS_734.F ht⟩) hS_734.2.2 d_Mo_worked_339)
          clear hK_63
          refine lv_if_ne (tgt := 325) hx hb d_Mo_worked_318 (by decide) (fun c_64 => ?_) (fun c_64 => ?_)
          · have c_64 := (fun q9 => c_64 (((zv_eq (iI_t (R32_of _)) zero_v)).mpr q9))
            replace hf := ifn c_64 hf
            refine lv_lload hx hb d_Mo_worked_325 (lv_at hl 8 rfl) ?_
            refine lv_iload hx hb d_Mo_worked_327 (lv_at hl 7 rfl) ?_
            refine lv_lshl hx hb d_Mo_worked_329 rfl ?_
            refine lv_lload hx hb d_Mo_worked_330 (lv_at hl 8 rfl) ?_
            refine lv_iload hx hb d_Mo_worked_332 (lv_at hl 6 rfl) ?_
            refine lv_iload hx hb d_Mo_worked_334 (lv_at hl 7 rfl) ?_
            refine lv_isub hx hb d_Mo_worked_336 ?_
            refine lv_topi (fun x9 e9 => ?_)
            obtain rfl : x9 = iI (y_1 - ((v_b.toInt32 &&& (iI (y_1 - 1))).toInt)) := e9.trans (iI_sub _ _)
            replace hf := grd hnb hf
            obtain ⟨g_65, hf⟩ := hf
            refine lv_lushr hx hb d_Mo_worked_337 rfl ?_
            refine lv_lor hx hb d_Mo_worked_338 ?_
            exact hJK_63 ((y_4 <<< ((iI ((v_b.toInt32 &&& (iI (y_1 - 1))).toInt)).toInt64 &&& 63)) ||| ((y_4.toUInt64 >>> ((iI (y_1 - ((v_b.toInt32 &&& (iI (y_1 - 1))).toInt))).toInt64.toUInt64 &&& Int64.toUInt64 63)).toInt64)) trivial hf _ _ hP_644 hD_644 hS_644 _ (lv_sub hl [1, 2, 3, 4, 5, 6, 7, 8, 0] rfl)
          · have c_64 := ((zv_eq (iI_t (R32_of _)) zero_v)).mp c_64
            replace hf := ifp c_64 hf
            refine lv_lload_n hx hb d_Mo_worked_321 rfl (lv_at hl 3 rfl) ?_
            refine lv_goto (tgt := 339) hx hb d_Mo_worked_322 (by decide) ?_
            exact hJK_63 v_a trivial hf _ _ hP_644 hD_644 hS_644 _ (lv_sub hl [1, 2, 3, 4, 5, 6, 7, 8, 0] rfl)
        replace hf := ifn q_61 hf
        rcases Decidable.em (v_k < 106 ∨ 119 < v_k) with q_66 | q_66
        · refine lv_tableOut (tgt := 340) hx hb d_Mo_worked_59 (by rw [iI_t hv_k]; exact q_66) (by decide) ?_
          refine lv_iload hx hb d_Mo_worked_340 (lv_at hl 7 rfl) ?_
          refine jpE hf (fun K_68 hK_68 hf9 => ?_)
          replace hf := hf9
          clear hf9
          have hJK_68 : ∀ (y_67 : Int64), True → K_68 y_67 = R9 → ∀ (H_644 : Heap) (locs_644 : List Loc), (fun w9 => va_P G classes w9 H_644 → va_D A w9 → va_S A s.heap H_644 locs_644 → ∀ (ls : Array Slot), lv_has ls 13 [(0, .ref aMo), (1, .int (iI v_k)), (2, .long v_a), (4, .long v_b), (6, .int (bI v_small)), (7, .int (iI y_1)), (8, .int (iI ((v_b.toInt32 &&& (iI (y_1 - 1))).toInt))), (9, .long y_4), (11, .long y_6)] → W p l e (headSpec (wx y_Mo_worked b_Mo_worked 13 (some .long)) { frames := 2, cells := 0, slots := 0, locals := 43 }).room s m ([.ref aMo, .int (iI v_k), .long v_a, .long v_b, .int (bI v_small)] : List Value).toArray below meth c H_644 locs_644 0 0 (MX below (XQ G classes A (pq_Mo_worked aRf tA tB tC tD tE tF aMo aMo_magic aM1 aM2 aMm aMo_blocks aMo_stack aMo_heights aMo_labels aMo_outs aMo_kinds aMo_lost aMo_memory aMo_globals aMo_values aMo_frameFunction aMo_frameReturn aMo_frameBase aMo_frameLabels aMo_labelAt aMo_labelHeight aMo_tape aMo_arguments zMc zVt zVo zVf zRg zRs zRr zRl zRq zMi R9)) ([.ref aMo, .int (iI v_k), .long v_a, .long v_b, .int (bI v_small)] : List Value).toArray s 0 0 A) (F0 m 363 ls [.long y_67])) [(aRf, .inr (12, [tA, tB, tC, tD, tE, tF, .int (iI zRf.reason)])), (aMo, .inr (10, [.ref aRf, .ref aMo_magic, .ref aM1, .ref aM2, .ref aMm, .int (iI zMc.cursor), .int (iI zMc.limit), .ref aMo_blocks, .ref aMo_stack, .int (iI zVt.top), .ref aMo_heights, .ref aMo_labels, .ref aMo_outs, .ref aMo_kinds, .ref aMo_lost, .int (iI zVo.depth), .int (iI zVf.function), .ref aMo_memory, .int (iI zRg.pages), .ref aMo_globals, .ref aMo_values, .int (iI zRs.valueTop), .ref aMo_frameFunction, .ref aMo_frameReturn, .ref aMo_frameBase, .ref aMo_frameLabels, .int (iI zRr.frames), .ref aMo_labelAt, .ref aMo_labelHeight, .int (iI zRl.labelTop), .int (iI zRq.steps), .ref aMo_tape, .int (iI zMi.taped), .int (bI zMi.there), .int (iI zMi.reason), .ref aMo_arguments, .int (iI zMi.argumentCount), .int (iI zMi.code)]))] := by
            intro y_67 hy_67 hf H_735 locs_735 hP_735 hD_735 hS_735 ls hl
            clear hS_644 hD_644 hP_644
            replace hf := (congrFun hK_68 y_67).symm.trans hf
            clear hK_68
            exact ex_W (fun _ h => ex_mq h) (W.lret (v := y_67) hx hb hr (fun t ht hW => ⟨⟨_, ozr hf ⟨hzRf, rfl, rfl⟩, by rw [ht]; exact hP_735, hD_735⟩, hS_735.F ht⟩) hS_735.2.2 d_Mo_worked_363)
          clear hK_68
          refine lv_if_ne (tgt := 349) hx hb d_Mo_worked_342 (by decide) (fun c_69 => ?_) (fun c_69 => ?_)
          · have c_69 := (fun q9 => c_69 (((zv_eq (iI_t (R32_of _)) zero_v)).mpr q9))
            replace hf := ifn c_69 hf
            refine lv_lload hx hb d_Mo_worked_349 (lv_at hl 8 rfl) ?_
            refine lv_iload hx hb d_Mo_worked_351 (lv_at hl 7 rfl) ?_
            refine lv_lushr hx hb d_Mo_worked_353 rfl ?_
            refine lv_lload hx hb d_Mo_worked_354 (lv_at hl 8 rfl) ?_
            refine lv_iload hx hb d_Mo_worked_356 (lv_at hl 6 rfl) ?_
            refine lv_iload hx hb d_Mo_worked_358 (lv_at hl 7 rfl) ?_
            refine lv_isub hx hb d_Mo_worked_360 ?_
            refine lv_topi (fun x9 e9 => ?_)
            obtain rfl : x9 = iI (y_1 - ((v_b.toInt32 &&& (iI (y_1 - 1))).toInt)) := e9.trans (iI_sub _ _)
            replace hf := grd hnb hf
            obtain ⟨g_70, hf⟩ := hf
            refine lv_lshl hx hb d_Mo_worked_361 rfl ?_
            refine lv_lor hx hb d_Mo_worked_362 ?_
            exact hJK_68 (((y_4.toUInt64 >>> ((iI ((v_b.toInt32 &&& (iI (y_1 - 1))).toInt)).toInt64.toUInt64 &&& Int64.toUInt64 63)).toInt64) ||| (y_4 <<< ((iI (y_1 - ((v_b.toInt32 &&& (iI (y_1 - 1))).toInt))).toInt64 &&& 63))) trivial hf _ _ hP_644 hD_644 hS_644 _ (lv_sub hl [1, 2, 3, 4, 5, 6, 7, 8, 0] rfl)
          · have c_69 := ((zv_eq (iI_t (R32_of _)) zero_v)).mp c_69
            replace hf := ifp c_69 hf
            refine lv_lload_n hx hb d_Mo_worked_345 rfl (lv_at hl 3 rfl) ?_
            refine lv_goto (tgt := 363) hx hb d_Mo_worked_346 (by decide) ?_
            exact hJK_68 v_a trivial hf _ _ hP_644 hD_644 hS_644 _ (lv_sub hl [1, 2, 3, 4, 5, 6, 7, 8, 0] rfl)
        exact absurd q_66 (by omega)
      clear hK_7
      refine lv_if_eq (tgt := 54) hx hb d_Mo_worked_42 (by decide) (fun c_71 => ?_) (fun c_71 => ?_)
      · have c_71 := (zb_f c_71)
        replace hf := ifn c_71 hf
        refine lv_lload hx hb d_Mo_worked_54 (lv_at hl 4 rfl) ?_
        exact hJK_7 v_b trivial hf _ _ hP_552 hD_552 hS_552 _ (lv_sub hl [1, 2, 3, 4, 5, 6, 7, 0] rfl)
      · have c_71 := (zb_t c_71)
        replace hf := ifp c_71 hf
        refine lv_lload hx hb d_Mo_worked_45 (lv_at hl 4 rfl) ?_
        refine lv_ldc2 (v := 4294967295) hx hb hown (hts _ m_1593) d_Mo_worked_47 ?_
        refine lv_land hx hb d_Mo_worked_50 ?_
        refine lv_goto (tgt := 56) hx hb d_Mo_worked_51 (by decide) ?_
        exact hJK_7 (v_b &&& 4294967295) trivial hf _ _ hP_552 hD_552 hS_552 _ (lv_sub hl [1, 2, 3, 4, 5, 6, 7, 0] rfl)
    clear hK_5
    refine lv_if_eq (tgt := 37) hx hb d_Mo_worked_26 (by decide) (fun c_72 => ?_) (fun c_72 => ?_)
    · have c_72 := (zb_f c_72)
      replace hf := ifn c_72 hf
      refine lv_lload_n hx hb d_Mo_worked_37 rfl (lv_at hl 4 rfl) ?_
      exact hJK_5 v_a trivial hf _ _ hP_368 hD_368 hS_368 _ (lv_sub hl [2, 3, 4, 5, 6, 1, 0] rfl)
    · have c_72 := (zb_t c_72)
      replace hf := ifp c_72 hf
      refine lv_lload_n hx hb d_Mo_worked_29 rfl (lv_at hl 4 rfl) ?_
      refine lv_ldc2 (v := 4294967295) hx hb hown (hts _ m_1593) d_Mo_worked_30 ?_
      refine lv_land hx hb d_Mo_worked_33 ?_
      refine lv_goto (tgt := 38) hx hb d_Mo_worked_34 (by decide) ?_
      exact hJK_5 (v_a &&& 4294967295) trivial hf _ _ hP_368 hD_368 hS_368 _ (lv_sub hl [2, 3, 4, 5, 6, 1, 0] rfl)
  clear hK_2
  refine lv_if_eq (tgt := 10) hx hb d_Mo_worked_2 (by decide) (fun c_73 => ?_) (fun c_73 => ?_)
  · have c_73 := (zb_f c_73)
    replace hf := ifn c_73 hf
    refine lv_bipush (v := iI 64) hx hb d_Mo_worked_10 (by decide) ?_
    exact hJK_2 64 (show R32 (64) by decide) hf _ _ hP hD hS _ (lv_sub hl [0, 1, 2, 3, 4] rfl)
  · have c_73 := (zb_t c_73)
    replace hf := ifp c_73 hf
    refine lv_bipush (v := iI 32) hx hb d_Mo_worked_5 (by decide) ?_
    refine lv_goto (tgt := 12) hx hb d_Mo_worked_7 (by decide) ?_
    exact hJK_2 32 (show R32 (32) by decide) hf _ _ hP hD hS _ (lv_sub hl [0, 1, 2, 3, 4] rfl)
set_option maxRecDepth 100000 in
abbrev pq_Mo_numbers (cJ : ClassId) (aRf : Nat) (tA : Value) (tB : Value) (tC : Value) (tD : Value) (tE : Value) (tF : Value) (aMo : Nat) (aMo_magic : Nat) (aM1 : Nat) (aM2 : Nat) (aMm : Nat) (aMo_blocks : Nat) (aMo_stack : Nat) (aMo_heights : Nat) (aMo_labels : Nat) (aMo_outs : Nat) (aMo_kinds : Nat) (aMo_lost : Nat) (aMo_memory : Nat) (aMo_globals : Nat) (aMo_values : Nat) (aMo_frameFunction : Nat) (aMo_frameReturn : Nat) (aMo_frameBase : Nat) (aMo_frameLabels : Nat) (aMo_labelAt : Nat) (aMo_labelHeight : Nat) (aMo_tape : Nat) (aMo_arguments : Nat) (zMc : KMc) (zVt : KVt) (zVo : KVo) (zVf : KVf) (zRg : KRg) (zRr : KRr) (zRl : KRl) (zRq : KRq) (zMi : KMi) (R9 : Out (KRf × KRs) (KRf × KRs)) := (fun (o : Outcome) (w1 : va_W) => ozp R9 (fun x9 => (KRf.Ok x9.1 ∧ KRs.Ok x9.2) ∧ o = .returned none ∧ w1 = [(aRf, .inr (12, [tA, tB, tC, tD, tE, tF, .int (iI x9.1.reason)])), (aMo, .inr (10, [.ref aRf, .ref aMo_magic, .ref aM1, .ref aM2, .ref aMm, .int (iI zMc.cursor), .int (iI zMc.limit), .ref aMo_blocks, .ref aMo_stack, .int (iI zVt.top), .ref aMo_heights, .ref aMo_labels, .ref aMo_outs, .ref aMo_kinds, .ref aMo_lost, .int (iI zVo.depth), .int (iI zVf.function), .ref aMo_memory, .int (iI zRg.pages), .ref aMo_globals, .ref aMo_values, .int (iI x9.2.valueTop), .ref aMo_frameFunction, .ref aMo_frameReturn, .ref aMo_frameBase, .ref aMo_frameLabels, .int (iI zRr.frames), .ref aMo_labelAt, .ref aMo_labelHeight, .int (iI zRl.labelTop), .int (iI zRq.steps), .ref aMo_tape, .int (iI zMi.taped), .int (bI zMi.there), .int (iI zMi.reason), .ref aMo_arguments, .int (iI zMi.argumentCount), .int (iI zMi.code)])), (aMo_values, .inl (cJ, 12097, .inr (.inl x9.2.values)))]) (fun t9 => (KRf.Ok t9.1 ∧ KRs.Ok t9.2) ∧ o = .threw aRf ∧ w1 = [(aRf, .inr (12, [tA, tB, tC, tD, tE, tF, .int (iI t9.1.reason)])), (aMo, .inr (10, [.ref aRf, .ref aMo_magic, .ref aM1, .ref aM2, .ref aMm, .int (iI zMc.cursor), .int (iI zMc.limit), .ref aMo_blocks, .ref aMo_stack, .int (iI zVt.top), .ref aMo_heights, .ref aMo_labels, .ref aMo_outs, .ref aMo_kinds, .ref aMo_lost, .int (iI zVo.depth), .int (iI zVf.function), .ref aMo_memory, .int (iI zRg.pages), .ref aMo_globals, .ref aMo_values, .int (iI t9.2.valueTop), .ref aMo_frameFunction, .ref aMo_frameReturn, .ref aMo_frameBase, .ref aMo_frameLabels, .int (iI zRr.frames), .ref aMo_labelAt, .ref aMo_labelHeight, .int (iI zRl.labelTop), .int (iI zRq.steps), .ref aMo_tape, .int (iI zMi.taped), .int (bI zMi.there), .int (iI zMi.reason), .ref aMo_arguments, .int (iI zMi.argumentCount), .int (iI zMi.code)])), (aMo_values, .inl (cJ, 12097, .inr (.inl t9.2.values)))]))
set_option maxHeartbeats 8000000 in
set_option maxRecDepth 100000 in
theorem k_Mo_numbers (l : Launch) (htr : l.stackTraces = false) (G : va_G) (cB cI cJ cZ cG : ClassId) (aRf : Nat) (tA : Value) (tB : Value) (tC : Value) (tD : Value) (tE : Value) (tF : Value) (aMo : Nat) (aMo_magic : Nat) (aM1 : Nat) (aM2 : Nat) (aMm : Nat) (aMo_blocks : Nat) (aMo_stack : Nat) (aMo_heights : Nat) (aMo_labels : Nat) (aMo_outs : Nat) (aMo_kinds : Nat) (aMo_lost : Nat) (aMo_memory : Nat) (aMo_globals : Nat) (aMo_values : Nat) (aMo_frameFunction : Nat) (aMo_frameReturn : Nat) (aMo_frameBase : Nat) (aMo_frameLabels : Nat) (aMo_labelAt : Nat) (aMo_labelHeight : Nat) (aMo_tape : Nat) (aMo_arguments : Nat) (zRf : KRf) (zMc : KMc) (zVt : KVt) (zVo : KVo) (zVf : KVf) (zRg : KRg) (zRs : KRs) (zRr : KRr) (zRl : KRl) (zRq : KRq) (zMi : KMi) (hzRf : KRf.Ok zRf) (hzMc : KMc.Ok zMc) (hzVt : KVt.Ok zVt) (hzVo : KVo.Ok zVo) (hzVf : KVf.Ok zVf) (hzRg : KRg.Ok zRg) (hzRs : KRs.Ok zRs) (hzRr : KRr.Ok zRr) (hzRl : KRl.Ok zRl) (hzRq : KRq.Ok zRq) (hzMi : KMi.Ok zMi) (v_op : Int) (hv_op : R32 v_op) (fu : Nat) (R9 : Out (KRf × KRs) (KRf × KRs)) (hf : f_Mo_numbers fu zRf zRs v_op = R9) (hnb : R9 ≠ .bad) (sz : Nat) : MetX l y_Mo_numbers (wx y_Mo_numbers b_Mo_numbers 8 none) { frames := 3, cells := 0, slots := 0, locals := 75 } (XP G classes (xtys cB cI cJ cZ cG) xE [.ref aMo, .int (iI v_op)] [(aRf, .inr (12, [tA, tB, tC, tD, tE, tF, .int (iI zRf.reason)])), (aMo, .inr (10, [.ref aRf, .ref aMo_magic, .ref aM1, .ref aM2, .ref aMm, .int (iI zMc.cursor), .int (iI zMc.limit), .ref aMo_blocks, .ref aMo_stack, .int (iI zVt.top), .ref aMo_heights, .ref aMo_labels, .ref aMo_outs, .ref aMo_kinds, .ref aMo_lost, .int (iI zVo.depth), .int (iI zVf.function), .ref aMo_memory, .int (iI zRg.pages), .ref aMo_globals, .ref aMo_values, .int (iI zRs.valueTop), .ref aMo_frameFunction, .ref aMo_frameReturn, .ref aMo_frameBase, .ref aMo_frameLabels, .int (iI zRr.frames), .ref aMo_labelAt, .ref aMo_labelHeight, .int (iI zRl.labelTop), .int (iI zRq.steps), .ref aMo_tape, .int (iI zMi.taped), .int (bI zMi.there), .int (iI zMi.reason), .ref aMo_arguments, .int (iI zMi.argumentCount), .int (iI zMi.code)])), (aMo_values, .inl (cJ, 12097, .inr (.inl zRs.values)))] sz) (XQ G classes (va_A [(aRf, .inr (12, [tA, tB, tC, tD, tE, tF, .int (iI zRf.reason)])), (aMo, .inr (10, [.ref aRf, .ref aMo_magic, .ref aM1, .ref aM2, .ref aMm, .int (iI zMc.cursor), .int (iI zMc.limit), .ref aMo_blocks, .ref aMo_stack, .int (iI zVt.top), .ref aMo_heights, .ref aMo_labels, .ref aMo_outs, .ref aMo_kinds, .ref aMo_lost, .int (iI zVo.depth), .int (iI zVf.function), .ref aMo_memory, .int (iI zRg.pages), .ref aMo_globals, .ref aMo_values, .int (iI zRs.valueTop), .ref aMo_frameFunction, .ref aMo_frameReturn, .ref aMo_frameBase, .ref aMo_frameLabels, .int (iI zRr.frames), .ref aMo_labelAt, .ref aMo_labelHeight, .int (iI zRl.labelTop), .int (iI zRq.steps), .ref aMo_tape, .int (iI zMi.taped), .int (bI zMi.there), .int (iI zMi.reason), .ref aMo_arguments, .int (iI zMi.argumentCount), .int (iI zMi.code)])), (aMo_values, .inl (cJ, 12097, .inr (.inl zRs.values)))] sz) (fun o w1 => ozp R9 (fun x9 => (KRf.Ok x9.1 ∧ KRs.Ok x9.2) ∧ o = .returned none ∧ w1 = [(aRf, .inr (12, [tA, tB, tC, tD, tE, tF, .int (iI x9.1.reason)])), (aMo, .inr (10, [.ref aRf, .ref aMo_magic, .ref aM1, .ref aM2, .ref aMm, .int (iI zMc.cursor), .int (iI zMc.limit), .ref aMo_blocks, .ref aMo_stack, .int (iI zVt.top), .ref aMo_heights, .ref aMo_labels, .ref aMo_outs, .ref aMo_kinds, .ref aMo_lost, .int (iI zVo.depth), .int (iI zVf.function), .ref aMo_memory, .int (iI zRg.pages), .ref aMo_globals, .ref aMo_values, .int (iI x9.2.valueTop), .ref aMo_frameFunction, .ref aMo_frameReturn, .ref aMo_frameBase, .ref aMo_frameLabels, .int (iI zRr.frames), .ref aMo_labelAt, .ref aMo_labelHeight, .int (iI zRl.labelTop), .int (iI zRq.steps), .ref aMo_tape, .int (iI zMi.taped), .int (bI zMi.there), .int (iI zMi.reason), .ref aMo_arguments, .int (iI zMi.argumentCount), .int (iI zMi.code)])), (aMo_values, .inl (cJ, 12097, .inr (.inl x9.2.values)))]) (fun t9 => (KRf.Ok t9.1 ∧ KRs.Ok t9.2) ∧ o = .threw aRf ∧ w1 = [(aRf, .inr (12, [tA, tB, tC, tD, tE, tF, .int (iI t9.1.reason)])), (aMo, .inr (10, [.ref aRf, .ref aMo_magic, .ref aM1, .ref aM2, .ref aMm, .int (iI zMc.cursor), .int (iI zMc.limit), .ref aMo_blocks, .ref aMo_stack, .int (iI zVt.top), .ref aMo_heights, .ref aMo_labels, .ref aMo_outs, .ref aMo_kinds, .ref aMo_lost, .int (iI zVo.depth), .int (iI zVf.function), .ref aMo_memory, .int (iI zRg.pages), .ref aMo_globals, .ref aMo_values, .int (iI t9.2.valueTop), .ref aMo_frameFunction, .ref aMo_frameReturn, .ref aMo_frameBase, .ref aMo_frameLabels, .int (iI zRr.frames), .ref aMo_labelAt, .ref aMo_labelHeight, .int (iI zRl.labelTop), .int (iI zRq.steps), .ref aMo_tape, .int (iI zMi.taped), .int (bI zMi.there), .int (iI zMi.reason), .ref aMo_arguments, .int (iI zMi.argumentCount), .int (iI zMi.code)])), (aMo_values, .inl (cJ, 12097, .inr (.inl t9.2.values)))]))) 0 0 (va_A [(aRf, .inr (12, [tA, tB, tC, tD, tE, tF, .int (iI zRf.reason)])), (aMo, .inr (10, [.ref aRf, .ref aMo_magic, .ref aM1, .ref aM2, .ref aMm, .int (iI zMc.cursor), .int (iI zMc.limit), .ref aMo_blocks, .ref aMo_stack, .int (iI zVt.top), .ref aMo_heights, .ref aMo_labels, .ref aMo_outs, .ref aMo_kinds, .ref aMo_lost, .int (iI zVo.depth), .int (iI zVf.function), .ref aMo_memory, .int (iI zRg.pages), .ref aMo_globals, .ref aMo_values, .int (iI zRs.valueTop), .ref aMo_frameFunction, .ref aMo_frameReturn, .ref aMo_frameBase, .ref aMo_frameLabels, .int (iI zRr.frames), .ref aMo_labelAt, .ref aMo_labelHeight, .int (iI zRl.labelTop), .int (iI zRq.steps), .ref aMo_tape, .int (iI zMi.taped), .int (bI zMi.there), .int (iI zMi.reason), .ref aMo_arguments, .int (iI zMi.argumentCount), .int (iI zMi.code)])), (aMo_values, .inl (cJ, 12097, .inr (.inl zRs.values)))] sz) := by
  refine ex_ofW (cc := b_Mo_numbers) (maxL := 8) (ret := none) (by decide) rfl ?_
  intro p e s m args below meth c s₁ B hml hno hv
  obtain ⟨rfl, hsz, hP, hK, hD0, hE⟩ := hv
  have hx := B.exec
  have hb := B.bytes
  have hr := B.returns
  have hts : ∀ w ∈ lw_good, w.before _ s = true := fun w h => atoms_spec (ws := wx y_Mo_numbers b_Mo_numbers 8 none) B.pre w (List.mem_cons_of_mem _ h)
  have hown : s.vm.findClass R_Mo = some m.cls := findClass_of_methodNamed B.named
  have hlocks := B.notSynchronized
  subst hsz
  have hNS := xx_nostat hP
  have hD := hD0.self (sz := s.heap.size)
  generalize hAe : va_A [(aRf, .inr (12, [tA, tB, tC, tD, tE, tF, .int (iI zRf.reason)])), (aMo, .inr (10, [.ref aRf, .ref aMo_magic, .ref aM1, .ref aM2, .ref aMm, .int (iI zMc.cursor), .int (iI zMc.limit), .ref aMo_blocks, .ref aMo_stack, .int (iI zVt.top), .ref aMo_heights, .ref aMo_labels, .ref aMo_outs, .ref aMo_kinds, .ref aMo_lost, .int (iI zVo.depth), .int (iI zVf.function), .ref aMo_memory, .int (iI zRg.pages), .ref aMo_globals, .ref aMo_values, .int (iI zRs.valueTop), .ref aMo_frameFunction, .ref aMo_frameReturn, .ref aMo_frameBase, .ref aMo_frameLabels, .int (iI zRr.frames), .ref aMo_labelAt, .ref aMo_labelHeight, .int (iI zRl.labelTop), .int (iI zRq.steps), .ref aMo_tape, .int (iI zMi.taped), .int (bI zMi.there), .int (iI zMi.reason), .ref aMo_arguments, .int (iI zMi.argumentCount), .int (iI zMi.code)])), (aMo_values, .inl (cJ, 12097, .inr (.inl zRs.values)))] s.heap.size = A at hD hE hNS ⊢
  have hA : ∀ q : Nat, s.heap.size ≤ q → A q := fun q h => by rw [← hAe]; exact Or.inr h
  have hS : va_S A s.heap s.heap [] := va_S.rf
  have hl := lv_entry ([.ref aMo, .int (iI v_op)]) (n := 8) (Nat.le_of_ble_eq_true rfl)
  rw [lg_entry_eq]
  generalize (lg_sl ([.ref aMo, .int (iI v_op)]) ++ List.replicate (8 - (lg_sl ([.ref aMo, .int (iI v_op)])).length) Slot.unset).toArray = ls at hl ⊢
  have hl : lv_has ls 8 [(0, .ref aMo), (1, .int (iI v_op))] := hl
  unfold f_Mo_numbers at hf
  refine lv_iload_n hx hb d_Mo_numbers_0 rfl (lv_at hl 1 rfl) ?_
  refine lv_sipush (v := iI 167) hx hb d_Mo_numbers_1 (by decide) ?_
  refine lv_icmp_ne (tgt := 18) hx hb d_Mo_numbers_4 (by decide) (fun c_1 => ?_) (fun c_1 => ?_)
  · have c_1 := (fun q9 => c_1 (((zv_eq (iI_t hv_op) (iI_t (show R32 (167) by decide)))).mpr q9))
    replace hf := ifn c_1 hf
    refine lv_iload_n hx hb d_Mo_numbers_18 rfl (lv_at hl 1 rfl) ?_
    refine lv_sipush (v := iI 172) hx hb d_Mo_numbers_19 (by decide) ?_
    refine lv_icmp_lt (tgt := 51) hx hb d_Mo_numbers_22 (by decide) (fun c_2 => ?_) (fun c_2 => ?_)
    · have c_2 := ((zv_lt (iI_t hv_op) (iI_t (show R32 (172) by decide)))).mp c_2
      replace hf := ifp c_2 hf
      refine lv_iload_n hx hb d_Mo_numbers_51 rfl (lv_at hl 1 rfl) ?_
      refine lv_bipush (v := iI 79) hx hb d_Mo_numbers_52 (by decide) ?_
      refine jpE hf (fun K_4 hK_4 hf9 => ?_)
      replace hf := hf9
      clear hf9
      have hJK_4 : ∀ (y_3 : Bool), True → K_4 y_3 = R9 → ∀ (H : Heap) (locs : List Loc), (fun w9 => va_P G classes w9 H → va_D A w9 → va_S A s.heap H locs → ∀ (ls : Array Slot), lv_has ls 8 [(0, .ref aMo), (1, .int (iI v_op))] → W p l e (headSpec (wx y_Mo_numbers b_Mo_numbers 8 none) { frames := 3, cells := 0, slots := 0, locals := 75 }).room s m ([.ref aMo, .int (iI v_op)] : List Value).toArray below meth c H locs 0 0 (MX below (XQ G classes A (pq_Mo_numbers cJ aRf tA tB tC tD tE tF aMo aMo_magic aM1 aM2 aMm aMo_blocks aMo_stack aMo_heights aMo_labels aMo_outs aMo_kinds aMo_lost aMo_memory aMo_globals aMo_values aMo_frameFunction aMo_frameReturn aMo_frameBase aMo_frameLabels aMo_labelAt aMo_labelHeight aMo_tape aMo_arguments zMc zVt zVo zVf zRg zRr zRl zRq zMi R9)) ([.ref aMo, .int (iI v_op)] : List Value).toArray s 0 0 A) (F0 m 74 ls [.int (bI y_3)])) [(aRf, .inr (12, [tA, tB, tC, tD, tE, tF, .int (iI zRf.reason)])), (aMo, .inr (10, [.ref aRf, .ref aMo_magic, .ref aM1, .ref aM2, .ref aMm, .int (iI zMc.cursor), .int (iI zMc.limit), .ref aMo_blocks, .ref aMo_stack, .int (iI zVt.top), .ref aMo_heights, .ref aMo_labels, .ref aMo_outs, .ref aMo_kinds, .ref aMo_lost, .int (iI zVo.depth), .int (iI zVf.function), .ref aMo_memory, .int (iI zRg.pages), .ref aMo_globals, .ref aMo_values, .int (iI zRs.valueTop), .ref aMo_frameFunction, .ref aMo_frameReturn, .ref aMo_frameBase, .ref aMo_frameLabels, .int (iI zRr.frames), .ref aMo_labelAt, .ref aMo_labelHeight, .int (iI zRl.labelTop), .int (iI zRq.steps), .ref aMo_tape, .int (iI zMi.taped), .int (bI zMi.there), .int (iI zMi.reason), .ref aMo_arguments, .int (iI zMi.argumentCount), .int (iI zMi.code)])), (aMo_values, .inl (cJ, 12097, .inr (.inl zRs.values)))] := by
        intro y_3 hy_3 hf H_231 locs_231 hP_231 hD_231 hS_231 ls hl
        clear hS hD hP
        replace hf := (congrFun hK_4 y_3).symm.trans hf
        clear hK_4
        refine lv_istore_n (lv' := [(2, .int (bI y_3)), (0, .ref aMo), (1, .int (iI v_op))]) hx hb d_Mo_numbers_74 rfl hl (by decide) rfl (fun ls hl => ?_)
        refine lv_iload_n hx hb d_Mo_numbers_75 rfl (lv_at hl 0 rfl) ?_
        refine jpE hf (fun K_6 hK_6 hf9 => ?_)
        replace hf := hf9
        clear hf9
        have hJK_6 : ∀ (y_5 : Int), R32 y_5 → K_6 y_5 = R9 → ∀ (H_231 : Heap) (locs_231 : List Loc), (fun w9 => va_P G classes w9 H_231 → va_D A w9 → va_S A s.heap H_231 locs_231 → ∀ (ls : Array Slot), lv_has ls 8 [(0, .ref aMo), (1, .int (iI v_op)), (2, .int (bI y_3))] → W p l e (headSpec (wx y_Mo_numbers b_Mo_numbers 8 none) { frames := 3, cells := 0, slots := 0, locals := 75 }).room s m ([.ref aMo, .int (iI v_op)] : List Value).toArray below meth c H_231 locs_231 0 0 (MX below (XQ G classes A (pq_Mo_numbers cJ aRf tA tB tC tD tE tF aMo aMo_magic aM1 aM2 aMm aMo_blocks aMo_stack aMo_heights aMo_labels aMo_outs aMo_kinds aMo_lost aMo_memory aMo_globals aMo_values aMo_frameFunction aMo_frameReturn aMo_frameBase aMo_frameLabels aMo_labelAt aMo_labelHeight aMo_tape aMo_arguments zMc zVt zVo zVf zRg zRr zRl zRq zMi R9)) ([.ref aMo, .int (iI v_op)] : List Value).toArray s 0 0 A) (F0 m 100 ls [.int (iI y_5)])) [(aRf, .inr (12, [tA, tB, tC, tD, tE, tF, .int (iI zRf.reason)])), (aMo, .inr (10, [.ref aRf, .ref aMo_magic, .ref aM1, .ref aM2, .ref aMm, .int (iI zMc.cursor), .int (iI zMc.limit), .ref aMo_blocks, .ref aMo_stack, .int (iI zVt.top), .ref aMo_heights, .ref aMo_labels, .ref aMo_outs, .ref aMo_kinds, .ref aMo_lost, .int (iI zVo.depth), .int (iI zVf.function), .ref aMo_memory, .int (iI zRg.pages), .ref aMo_globals, .ref aMo_values, .int (iI zRs.valueTop), .ref aMo_frameFunction, .ref aMo_frameReturn, .ref aMo_frameBase, .ref aMo_frameLabels, .int (iI zRr.frames), .ref aMo_labelAt, .ref aMo_labelHeight, .int (iI zRl.labelTop), .int (iI zRq.steps), .ref aMo_tape, .int (iI zMi.taped), .int (bI zMi.there), .int (iI zMi.reason), .ref aMo_arguments, .int (iI zMi.argumentCount), .int (iI zMi.code)])), (aMo_values, .inl (cJ, 12097, .inr (.inl zRs.values)))] := by
          intro y_5 hy_5 hf H_346 locs_346 hP_346 hD_346 hS_346 ls hl
          clear hS_231 hD_231 hP_231
          replace hf := (congrFun hK_6 y_5).symm.trans hf
          clear hK_6
          refine lv_istore_n (lv' := [(3, .int (iI y_5)), (0, .ref aMo), (1, .int (iI v_op)), (2, .int (bI y_3))]) hx hb d_Mo_numbers_100 rfl hl (by decide) rfl (fun ls hl => ?_)
          refine lv_aload_n hx hb d_Mo_numbers_101 rfl (lv_at hl 1 rfl) ?_
          replace hf := obE hnb hf
          obtain ⟨x_7, e_8, hf⟩ := hf
          refine xx_callV (wc := [(aMo, .inr (10, [.ref aRf, .ref aMo_magic, .ref aM1, .ref aM2, .ref aMm, .int (iI zMc.cursor), .int (iI zMc.limit), .ref aMo_blocks, .ref aMo_stack, .int (iI zVt.top), .ref aMo_heights, .ref aMo_labels, .ref aMo_outs, .ref aMo_kinds, .ref aMo_lost, .int (iI zVo.depth), .int (iI zVf.function), .ref aMo_memory, .int (iI zRg.pages), .ref aMo_globals, .ref aMo_values, .int (iI zRs.valueTop), .ref aMo_frameFunction, .ref aMo_frameReturn, .ref aMo_frameBase, .ref aMo_frameLabels, .int (iI zRr.frames), .ref aMo_labelAt, .ref aMo_labelHeight, .int (iI zRl.labelTop), .int (iI zRq.steps), .ref aMo_tape, .int (iI zMi.taped), .int (bI zMi.there), .int (iI zMi.reason), .ref aMo_arguments, .int (iI zMi.argumentCount), .int (iI zMi.code)])), (aMo_values, .inl (cJ, 12097, .inr (.inl zRs.values)))]) (wr := [(aRf, .inr (12, [tA, tB, tC, tD, tE, tF, .int (iI zRf.reason)]))]) (As := []) (rest := []) ⟨hx, hb, hml, hown, hts⟩ xE_st hK hE hA (k_Mo_popValue l htr G cB cI cJ cZ cG aMo aRf aMo_magic aM1 aM2 aMm aMo_blocks aMo_stack aMo_heights aMo_labels aMo_outs aMo_kinds aMo_lost aMo_memory aMo_globals aMo_values aMo_frameFunction aMo_frameReturn aMo_frameBase aMo_frameLabels aMo_labelAt aMo_labelHeight aMo_tape aMo_arguments zMc zVt zVo zVf zRg zRs zRr zRl zRq zMi hzMc hzVt hzVo hzVf hzRg hzRs hzRr hzRl hzRq hzMi (.ret x_7) e_8 ret_nb _) (xw_V 0 hts m_1568 m_1570 ms_Mo_popValue m_11 m_1571 (by decide +kernel) ⟨(Nat.le_of_ble_eq_true rfl), (Nat.le_of_ble_eq_true rfl)⟩) hP_346 hD_346 hS_346 [1, 2] [0] rfl rfl (by decide +kernel) (by decide +kernel) (by decide +kernel) 0 10 rfl rfl rfl rfl hl.1 rfl (Nat.le_of_ble_eq_true rfl) d_Mo_numbers_102 ⟨(Nat.le_of_ble_eq_true rfl), (Nat.le_of_ble_eq_true rfl)⟩ (fun v9 w9 H_347 locs_347 hp hP_347 hD_347 hS_347 => ?_) (fun x9 w9 H9 l9 hp _ _ _ => absurd hp (fun q9 => by obtain ⟨-, ho, -⟩ := q9; cases ho))
          clear hS_346 hD_346 hP_346
          obtain ⟨hx_7, ho, rfl⟩ := hp
          cases ho
          have hQ9 : (fun w9 => va_P G classes w9 H_347 ∧ va_D A w9) [(aRf, .inr (12, [tA, tB, tC, tD, tE, tF, .int (iI zRf.reason)])), (aMo, .inr (10, [.ref aRf, .ref aMo_magic, .ref aM1, .ref aM2, .ref aMm, .int (iI zMc.cursor), .int (iI zMc.limit), .ref aMo_blocks, .ref aMo_stack, .int (iI zVt.top), .ref aMo_heights, .ref aMo_labels, .ref aMo_outs, .ref aMo_kinds, .ref aMo_lost, .int (iI zVo.depth), .int (iI zVf.function), .ref aMo_memory, .int (iI zRg.pages), .ref aMo_globals, .ref aMo_values, .int (iI x_7.1.valueTop), .ref aMo_frameFunction, .ref aMo_frameReturn, .ref aMo_frameBase, .ref aMo_frameLabels, .int (iI zRr.frames), .ref aMo_labelAt, .ref aMo_labelHeight, .int (iI zRl.labelTop), .int (iI zRq.steps), .ref aMo_tape, .int (iI zMi.taped), .int (bI zMi.there), .int (iI zMi.reason), .ref aMo_arguments, .int (iI zMi.argumentCount), .int (iI zMi.code)])), (aMo_values, .inl (cJ, 12097, .inr (.inl x_7.1.values)))] := ⟨hP_347, hD_347⟩
          clear hP_347 hD_347
          obtain ⟨hP_347, hD_347⟩ := hQ9
          refine lv_lstore (lv' := [(4, .long x_7.2), (3, .int (iI y_5)), (0, .ref aMo), (1, .int (iI v_op)), (2, .int (bI y_3))]) hx hb d_Mo_numbers_105 hl (by decide) rfl (fun ls hl => ?_)
          refine lv_iload_n hx hb d_Mo_numbers_107 rfl (lv_at hl 1 rfl) ?_
          refine lv_bipush (v := iI 69) hx hb d_Mo_numbers_108 (by decide) ?_
          refine jpE hf (fun K_10 hK_10 hf9 => ?_)
          replace hf := hf9
          clear hf9
          have hJK_10 : ∀ (y_9 : KRf × KRs), KRf.Ok y_9.1 ∧ KRs.Ok y_9.2 → K_10 y_9 = R9 → ∀ (H_347 : Heap) (locs_347 : List Loc), (fun w9 => va_P G classes w9 H_347 → va_D A w9 → va_S A s.heap H_347 locs_347 → ∀ (ls : Array Slot), lv_has ls 8 [(0, .ref aMo), (1, .int (iI v_op)), (2, .int (bI y_3)), (3, .int (iI y_5)), (4, .long x_7.2)] → W p l e (headSpec (wx y_Mo_numbers b_Mo_numbers 8 none) { frames := 3, cells := 0, slots := 0, locals := 75 }).room s m ([.ref aMo, .int (iI v_op)] : List Value).toArray below meth c H_347 locs_347 0 0 (MX below (XQ G classes A (pq_Mo_numbers cJ aRf tA tB tC tD tE tF aMo aMo_magic aM1 aM2 aMm aMo_blocks aMo_stack aMo_heights aMo_labels aMo_outs aMo_kinds aMo_lost aMo_memory aMo_globals aMo_values aMo_frameFunction aMo_frameReturn aMo_frameBase aMo_frameLabels aMo_labelAt aMo_labelHeight aMo_tape aMo_arguments zMc zVt zVo zVf zRg zRr zRl zRq zMi R9)) ([.ref aMo, .int (iI v_op)] : List Value).toArray s 0 0 A) (F0 m 228 ls [])) [(aRf, .inr (12, [tA, tB, tC, tD, tE, tF, .int (iI y_9.1.reason)])), (aMo, .inr (10, [.ref aRf, .ref aMo_magic, .ref aM1, .ref aM2, .ref aMm, .int (iI zMc.cursor), .int (iI zMc.limit), .ref aMo_blocks, .ref aMo_stack, .int (iI zVt.top), .ref aMo_heights, .ref aMo_labels, .ref aMo_outs, .ref aMo_kinds, .ref aMo_lost, .int (iI zVo.depth), .int (iI zVf.function), .ref aMo_memory, .int (iI zRg.pages), .ref aMo_globals, .ref aMo_values, .int (iI y_9.2.valueTop), .ref aMo_frameFunction, .ref aMo_frameReturn, .ref aMo_frameBase, .ref aMo_frameLabels, .int (iI zRr.frames), .ref aMo_labelAt, .ref aMo_labelHeight, .int (iI zRl.labelTop), .int (iI zRq.steps), .ref aMo_tape, .int (iI zMi.taped), .int (bI zMi.there), .int (iI zMi.reason), .ref aMo_arguments, .int (iI zMi.argumentCount), .int (iI zMi.code)])), (aMo_values, .inl (cJ, 12097, .inr (.inl y_9.2.values)))] := by
            intro y_9 hy_9 hf H_404 locs_404 hP_404 hD_404 hS_404 ls hl
            clear hS_347 hD_347 hP_347
            replace hf := (congrFun hK_10 y_9).symm.trans hf
            clear hK_10
            exact ex_W (fun _ h => ex_mq h) (W.vret hx hb hr (fun t ht hW => ⟨⟨_, ozr hf ⟨⟨hy_9.1, hy_9.2⟩, rfl, rfl⟩, by rw [ht]; exact hP_404, hD_404⟩, hS_404.F ht⟩) hS_404.2.2 d_Mo_numbers_228)
          clear hK_10
          refine lv_icmp_ne (tgt := 132) hx hb d_Mo_numbers_110 (by decide) (fun c_11 => ?_) (fun c_11 => ?_)
          · have c_11 := (fun q9 => c_11 (((zv_eq (iI_t hy_5) (iI_t (show R32 (69) by decide)))).mpr q9))
            replace hf := ifn c_11 hf
            refine lv_iload_n hx hb d_Mo_numbers_132 rfl (lv_at hl 1 rfl) ?_
            refine lv_bipush (v := iI 103) hx hb d_Mo_numbers_133 (by decide) ?_
            refine jpE hf (fun K_13 hK_13 hf9 => ?_)
            replace hf := hf9
            clear hf9
            have hJK_13 : ∀ (y_12 : Unit), True → K_13 y_12 = R9 → ∀ (H_347 : Heap) (locs_347 : List Loc), (fun w9 => va_P G classes w9 H_347 → va_D A w9 → va_S A s.heap H_347 locs_347 → ∀ (ls : Array Slot), lv_has ls 8 [(0, .ref aMo), (1, .int (iI v_op)), (2, .int (bI y_3)), (3, .int (iI y_5)), (4, .long x_7.2)] → W p l e (headSpec (wx y_Mo_numbers b_Mo_numbers 8 none) { frames := 3, cells := 0, slots := 0, locals := 75 }).room s m ([.ref aMo, .int (iI v_op)] : List Value).toArray below meth c H_347 locs_347 0 0 (MX below (XQ G classes A (pq_Mo_numbers cJ aRf tA tB tC tD tE tF aMo aMo_magic aM1 aM2 aMm aMo_blocks aMo_stack aMo_heights aMo_labels aMo_outs aMo_kinds aMo_lost aMo_memory aMo_globals aMo_values aMo_frameFunction aMo_frameReturn aMo_frameBase aMo_frameLabels aMo_labelAt aMo_labelHeight aMo_tape aMo_arguments zMc zVt zVo zVf zRg zRr zRl zRq zMi R9)) ([.ref aMo, .int (iI v_op)] : List Value).toArray s 0 0 A) (F0 m 171 ls [])) [(aRf, .inr (12, [tA, tB, tC, tD, tE, tF, .int (iI zRf.reason)])), (aMo, .inr (10, [.ref aRf, .ref aMo_magic, .ref aM1, .ref aM2, .ref aMm, .int (iI zMc.cursor), .int (iI zMc.limit), .ref aMo_blocks, .ref aMo_stack, .int (iI zVt.top), .ref aMo_heights, .ref aMo_labels, .ref aMo_outs, .ref aMo_kinds, .ref aMo_lost, .int (iI zVo.depth), .int (iI zVf.function), .ref aMo_memory, .int (iI zRg.pages), .ref aMo_globals, .ref aMo_values, .int (iI x_7.1.valueTop), .ref aMo_frameFunction, .ref aMo_frameReturn, .ref aMo_frameBase, .ref aMo_frameLabels, .int (iI zRr.frames), .ref aMo_labelAt, .ref aMo_labelHeight, .int (iI zRl.labelTop), .int (iI zRq.steps), .ref aMo_tape, .int (iI zMi.taped), .int (bI zMi.there), .int (iI zMi.reason), .ref aMo_arguments, .int (iI zMi.argumentCount), .int (iI zMi.code)])), (aMo_values, .inl (cJ, 12097, .inr (.inl x_7.1.values)))] := by
              intro y_12 hy_12 hf H_430 locs_430 hP_430 hD_430 hS_430 ls hl
              clear hS_347 hD_347 hP_347
              replace hf := (congrFun hK_13 y_12).symm.trans hf
              clear hK_13
              refine lv_aload_n hx hb d_Mo_numbers_171 rfl (lv_at hl 0 rfl) ?_
              replace hf := obE hnb hf
              obtain ⟨x_14, e_15, hf⟩ := hf
              refine xx_callV (wc := [(aMo, .inr (10, [.ref aRf, .ref aMo_magic, .ref aM1, .ref aM2, .ref aMm, .int (iI zMc.cursor), .int (iI zMc.limit), .ref aMo_blocks, .ref aMo_stack, .int (iI zVt.top), .ref aMo_heights, .ref aMo_labels, .ref aMo_outs, .ref aMo_kinds, .ref aMo_lost, .int (iI zVo.depth), .int (iI zVf.function), .ref aMo_memory, .int (iI zRg.pages), .ref aMo_globals, .ref aMo_values, .int (iI x_7.1.valueTop), .ref aMo_frameFunction, .ref aMo_frameReturn, .ref aMo_frameBase, .ref aMo_frameLabels, .int (iI zRr.frames), .ref aMo_labelAt, .ref aMo_labelHeight, .int (iI zRl.labelTop), .int (iI zRq.steps), .ref aMo_tape, .int (iI zMi.taped), .int (bI zMi.there), .int (iI zMi.reason), .ref aMo_arguments, .int (iI zMi.argumentCount), .int (iI zMi.code)])), (aMo_values, .inl (cJ, 12097, .inr (.inl x_7.1.values)))]) (wr := [(aRf, .inr (12, [tA, tB, tC, tD, tE, tF, .int (iI zRf.reason)]))]) (As := []) (rest := []) ⟨hx, hb, hml, hown, hts⟩ xE_st hK hE hA (k_Mo_popValue l htr G cB cI cJ cZ cG aMo aRf aMo_magic aM1 aM2 aMm aMo_blocks aMo_stack aMo_heights aMo_labels aMo_outs aMo_kinds aMo_lost aMo_memory aMo_globals aMo_values aMo_frameFunction aMo_frameReturn aMo_frameBase aMo_frameLabels aMo_labelAt aMo_labelHeight aMo_tape aMo_arguments zMc zVt zVo zVf zRg x_7.1 zRr zRl zRq zMi hzMc hzVt hzVo hzVf hzRg hx_7 hzRr hzRl hzRq hzMi (.ret x_14) e_15 ret_nb _) (xw_V 0 hts m_1568 m_1570 ms_Mo_popValue m_11 m_1571 (by decide +kernel) ⟨(Nat.le_of_ble_eq_true rfl), (Nat.le_of_ble_eq_true rfl)⟩) hP_430 hD_430 hS_430 [1, 2] [0] rfl rfl (by decide +kernel) (by decide +kernel) (by decide +kernel) 0 10 rfl rfl rfl rfl hl.1 rfl (Nat.le_of_ble_eq_true rfl) d_Mo_numbers_172 ⟨(Nat.le_of_ble_eq_true rfl), (Nat.le_of_ble_eq_true rfl)⟩ (fun v9 w9 H_431 locs_431 hp hP_431 hD_431 hS_431 => ?_) (fun x9 w9 H9 l9 hp _ _ _ => absurd hp (fun q9 => by obtain ⟨-, ho, -⟩ := q9; cases ho))
              clear hS_430 hD_430 hP_430
              obtain ⟨hx_14, ho, rfl⟩ := hp
              cases ho
              have hQ9 : (fun w9 => va_P G classes w9 H_431 ∧ va_D A w9) [(aRf, .inr (12, [tA, tB, tC, tD, tE, tF, .int (iI zRf.reason)])), (aMo, .inr (10, [.ref aRf, .ref aMo_magic, .ref aM1, .ref aM2, .ref aMm, .int (iI zMc.cursor), .int (iI zMc.limit), .ref aMo_blocks, .ref aMo_stack, .int (iI zVt.top), .ref aMo_heights, .ref aMo_labels, .ref aMo_outs, .ref aMo_kinds, .ref aMo_lost, .int (iI zVo.depth), .int (iI zVf.function), .ref aMo_memory, .int (iI zRg.pages), .ref aMo_globals, .ref aMo_values, .int (iI x_14.1.valueTop), .ref aMo_frameFunction, .ref aMo_frameReturn, .ref aMo_frameBase, .ref aMo_frameLabels, .int (iI zRr.frames), .ref aMo_labelAt, .ref aMo_labelHeight, .int (iI zRl.labelTop), .int (iI zRq.steps), .ref aMo_tape, .int (iI zMi.taped), .int (bI zMi.there), .int (iI zMi.reason), .ref aMo_arguments, .int (iI zMi.argumentCount), .int (iI zMi.code)])), (aMo_values, .inl (cJ, 12097, .inr (.inl x_14.1.values)))] := ⟨hP_431, hD_431⟩
              clear hP_431 hD_431
              obtain ⟨hP_431, hD_431⟩ := hQ9
              refine lv_lstore (lv' := [(6, .long x_14.2), (0, .ref aMo), (1, .int (iI v_op)), (2, .int (bI y_3)), (3, .int (iI y_5)), (4, .long x_7.2)]) hx hb d_Mo_numbers_175 hl (by decide) rfl (fun ls hl => ?_)
              refine lv_aload_n hx hb d_Mo_numbers_177 rfl (lv_at hl 1 rfl) ?_
              refine lv_iload_n hx hb d_Mo_numbers_178 rfl (lv_at hl 4 rfl) ?_
              refine lv_bipush (v := iI 79) hx hb d_Mo_numbers_179 (by decide) ?_
              refine jpE hf (fun K_17 hK_17 hf9 => ?_)
              replace hf := hf9
              clear hf9
              have hJK_17 : ∀ (y_16 : KRf × Int64), KRf.Ok y_16.1 → K_17 y_16 = R9 → ∀ (H_431 : Heap) (locs_431 : List Loc), (fun w9 => va_P G classes w9 H_431 → va_D A w9 → va_S A s.heap H_431 locs_431 → ∀ (ls : Array Slot), lv_has ls 8 [(0, .ref aMo), (1, .int (iI v_op)), (2, .int (bI y_3)), (3, .int (iI y_5)), (4, .long x_7.2), (6, .long x_14.2)] → W p l e (headSpec (wx y_Mo_numbers b_Mo_numbers 8 none) { frames := 3, cells := 0, slots := 0, locals := 75 }).room s m ([.ref aMo, .int (iI v_op)] : List Value).toArray below meth c H_431 locs_431 0 0 (MX below (XQ G classes A (pq_Mo_numbers cJ aRf tA tB tC tD tE tF aMo aMo_magic aM1 aM2 aMm aMo_blocks aMo_stack aMo_heights aMo_labels aMo_outs aMo_kinds aMo_lost aMo_memory aMo_globals aMo_values aMo_frameFunction aMo_frameReturn aMo_frameBase aMo_frameLabels aMo_labelAt aMo_labelHeight aMo_tape aMo_arguments zMc zVt zVo zVf zRg zRr zRl zRq zMi R9)) ([.ref aMo, .int (iI v_op)] : List Value).toArray s 0 0 A) (F0 m 225 ls [.long y_16.2, .ref aMo])) [(aRf, .inr (12, [tA, tB, tC, tD, tE, tF, .int (iI y_16.1.reason)])), (aMo, .inr (10, [.ref aRf, .ref aMo_magic, .ref aM1, .ref aM2, .ref aMm, .int (iI zMc.cursor), .int (iI zMc.limit), .ref aMo_blocks, .ref aMo_stack, .int (iI zVt.top), .ref aMo_heights, .ref aMo_labels, .ref aMo_outs, .ref aMo_kinds, .ref aMo_lost, .int (iI zVo.depth), .int (iI zVf.function), .ref aMo_memory, .int (iI zRg.pages), .ref aMo_globals, .ref aMo_values, .int (iI x_14.1.valueTop), .ref aMo_frameFunction, .ref aMo_frameReturn, .ref aMo_frameBase, .ref aMo_frameLabels, .int (iI zRr.frames), .ref aMo_labelAt, .ref aMo_labelHeight, .int (iI zRl.labelTop), .int (iI zRq.steps), .ref aMo_tape, .int (iI zMi.taped), .int (bI zMi.there), .int (iI zMi.reason), .ref aMo_arguments, .int (iI zMi.argumentCount), .int (iI zMi.code)])), (aMo_values, .inl (cJ, 12097, .inr (.inl x_14.1.values)))] := by
                intro y_16 hy_16 hf H_439 locs_439 hP_439 hD_439 hS_439 ls hl
                clear hS_431 hD_431 hP_431
                replace hf := (congrFun hK_17 y_16).symm.trans hf
                clear hK_17
                replace hf := ob2 hnb hf
                rcases hf with ⟨x_18, e_19, hf⟩ | ⟨x_18, e_19, hf⟩
                · refine xx_callV (wc := [(aRf, .inr (12, [tA, tB, tC, tD, tE, tF, .int (iI y_16.1.reason)])), (aMo, .inr (10, [.ref aRf, .ref aMo_magic, .ref aM1, .ref aM2, .ref aMm, .int (iI zMc.cursor), .int (iI zMc.limit), .ref aMo_blocks, .ref aMo_stack, .int (iI zVt.top), .ref aMo_heights, .ref aMo_labels, .ref aMo_outs, .ref aMo_kinds, .ref aMo_lost, .int (iI zVo.depth), .int (iI zVf.function), .ref aMo_memory, .int (iI zRg.pages), .ref aMo_globals, .ref aMo_values, .int (iI x_14.1.valueTop), .ref aMo_frameFunction, .ref aMo_frameReturn, .ref aMo_frameBase, .ref aMo_frameLabels, .int (iI zRr.frames), .ref aMo_labelAt, .ref aMo_labelHeight, .int (iI zRl.labelTop), .int (iI zRq.steps), .ref aMo_tape, .int (iI zMi.taped), .int (bI zMi.there), .int (iI zMi.reason), .ref aMo_arguments, .int (iI zMi.argumentCount), .int (iI zMi.code)])), (aMo_values, .inl (cJ, 12097, .inr (.inl x_14.1.values)))]) (wr := []) (As := [.long y_16.2]) (rest := []) ⟨hx, hb, hml, hown, hts⟩ xE_st hK hE hA (k_Mo_pushValue l htr G cB cI cJ cZ cG aRf tA tB tC tD tE tF aMo aMo_magic aM1 aM2 aMm aMo_blocks aMo_stack aMo_heights aMo_labels aMo_outs aMo_kinds aMo_lost aMo_memory aMo_globals aMo_values aMo_frameFunction aMo_frameReturn aMo_frameBase aMo_frameLabels aMo_labelAt aMo_labelHeight aMo_tape aMo_arguments y_16.1 zMc zVt zVo zVf zRg x_14.1 zRr zRl zRq zMi hy_16 hzMc hzVt hzVo hzVf hzRg hx_14 hzRr hzRl hzRq hzMi y_16.2 (.ret x_18) e_19 ret_nb _) (xw_V 1 hts m_1560 m_1562 ms_Mo_pushValue m_11 m_1563 (by decide +kernel) ⟨(Nat.le_of_ble_eq_true rfl), (Nat.le_of_ble_eq_true rfl)⟩) hP_439 hD_439 hS_439 [0, 1, 2] [] rfl rfl (by decide +kernel) (by decide +kernel) (by decide +kernel) 1 10 rfl rfl rfl rfl hl.1 rfl (Nat.le_of_ble_eq_true rfl) d_Mo_numbers_225 ⟨(Nat.le_of_ble_eq_true rfl), (Nat.le_of_ble_eq_true rfl)⟩ (fun v9 w9 H_440 locs_440 hp hP_440 hD_440 hS_440 => ?_) (fun x9 w9 H9 l9 hp _ _ _ => absurd hp (fun q9 => by obtain ⟨-, ho, -⟩ := q9; cases ho))
                  clear hS_439 hD_439 hP_439
                  obtain ⟨hx_18, ho, rfl⟩ := hp
                  cases ho
                  have hQ9 : (fun w9 => va_P G classes w9 H_440 ∧ va_D A w9) [(aRf, .inr (12, [tA, tB, tC, tD, tE, tF, .int (iI x_18.1.reason)])), (aMo, .inr (10, [.ref aRf, .ref aMo_magic, .ref aM1, .ref aM2, .ref aMm, .int (iI zMc.cursor), .int (iI zMc.limit), .ref aMo_blocks, .ref aMo_stack, .int (iI zVt.top), .ref aMo_heights, .ref aMo_labels, .ref aMo_outs, .ref aMo_kinds, .ref aMo_lost, .int (iI zVo.depth), .int (iI zVf.function), .ref aMo_memory, .int (iI zRg.pages), .ref aMo_globals, .ref aMo_values, .int (iI x_18.2.valueTop), .ref aMo_frameFunction, .ref aMo_frameReturn, .ref aMo_frameBase, .ref aMo_frameLabels, .int (iI zRr.frames), .ref aMo_labelAt, .ref aMo_labelHeight, .int (iI zRl.labelTop), .int (iI zRq.steps), .ref aMo_tape, .int (iI zMi.taped), .int (bI zMi.there), .int (iI zMi.reason), .ref aMo_arguments, .int (iI zMi.argumentCount), .int (iI zMi.code)])), (aMo_values, .inl (cJ, 12097, .inr (.inl x_18.2.values)))] := ⟨hP_440, hD_440⟩
                  clear hP_440 hD_440
                  obtain ⟨hP_440, hD_440⟩ := hQ9
                  exact hJK_10 (x_18.1, x_18.2) ⟨hx_18.1, hx_18.2⟩ hf _ _ hP_440 hD_440 hS_440 _ (lv_sub hl [0, 1, 2, 3, 4] rfl)
                · refine xx_callV (wc := [(aRf, .inr (12, [tA, tB, tC, tD, tE, tF, .int (iI y_16.1.reason)])), (aMo, .inr (10, [.ref aRf, .ref aMo_magic, .ref aM1, .ref aM2, .ref aMm, .int (iI zMc.cursor), .int (iI zMc.limit), .ref aMo_blocks, .ref aMo_stack, .int (iI zVt.top), .ref aMo_heights, .ref aMo_labels, .ref aMo_outs, .ref aMo_kinds, .ref aMo_lost, .int (iI zVo.depth), .int (iI zVf.function), .ref aMo_memory, .int (iI zRg.pages), .ref aMo_globals, .ref aMo_values, .int (iI x_14.1.valueTop), .ref aMo_frameFunction, .ref aMo_frameReturn, .ref aMo_frameBase, .ref aMo_frameLabels, .int (iI zRr.frames), .ref aMo_labelAt, .ref aMo_labelHeight, .int (iI zRl.labelTop), .int (iI zRq.steps), .ref aMo_tape, .int (iI zMi.taped), .int (bI zMi.there), .int (iI zMi.reason), .ref aMo_arguments, .int (iI zMi.argumentCount), .int (iI zMi.code)])), (aMo_values, .inl (cJ, 12097, .inr (.inl x_14.1.values)))]) (wr := []) (As := [.long y_16.2]) (rest := []) ⟨hx, hb, hml, hown, hts⟩ xE_st hK hE hA (k_Mo_pushValue l htr G cB cI cJ cZ cG aRf tA tB tC tD tE tF aMo aMo_magic aM1 aM2 aMm aMo_blocks aMo_stack aMo_heights aMo_labels aMo_outs aMo_kinds aMo_lost aMo_memory aMo_globals aMo_values aMo_frameFunction aMo_frameReturn aMo_frameBase aMo_frameLabels aMo_labelAt aMo_labelHeight aMo_tape aMo_arguments y_16.1 zMc zVt zVo zVf zRg x_14.1 zRr zRl zRq zMi hy_16 hzMc hzVt hzVo hzVf hzRg hx_14 hzRr hzRl hzRq hzMi y_16.2 (.thr x_18) e_19 thr_nb _) (xw_V 1 hts m_1560 m_1562 ms_Mo_pushValue m_11 m_1563 (by decide +kernel) ⟨(Nat.le_of_ble_eq_true rfl), (Nat.le_of_ble_eq_true rfl)⟩) hP_439 hD_439 hS_439 [0, 1, 2] [] rfl rfl (by decide +kernel) (by decide +kernel) (by decide +kernel) 1 10 rfl rfl rfl rfl hl.1 rfl (Nat.le_of_ble_eq_true rfl) d_Mo_numbers_225 ⟨(Nat.le_of_ble_eq_true rfl), (Nat.le_of_ble_eq_true rfl)⟩ (fun v9 w9 H9 l9 hp _ _ _ => absurd hp (fun q9 => by obtain ⟨-, ho, -⟩ := q9; cases ho)) (fun x9 w9 H_441 locs_441 hp hP_441 hD_441 hS_441 => ?_)
                  clear hS_439 hD_439 hP_439
                  obtain ⟨hx_18, ho, rfl⟩ := hp
                  cases ho
                  have hQ9 : (fun w9 => va_P G classes w9 H_441 ∧ va_D A w9) [(aRf, .inr (12, [tA, tB, tC, tD, tE, tF, .int (iI x_18.1.reason)])), (aMo, .inr (10, [.ref aRf, .ref aMo_magic, .ref aM1, .ref aM2, .ref aMm, .int (iI zMc.cursor), .int (iI zMc.limit), .ref aMo_blocks, .ref aMo_stack, .int (iI zVt.top), .ref aMo_heights, .ref aMo_labels, .ref aMo_outs, .ref aMo_kinds, .ref aMo_lost, .int (iI zVo.depth), .int (iI zVf.function), .ref aMo_memory, .int (iI zRg.pages), .ref aMo_globals, .ref aMo_values, .int (iI x_18.2.valueTop), .ref aMo_frameFunction, .ref aMo_frameReturn, .ref aMo_frameBase, .ref aMo_frameLabels, .int (iI zRr.frames), .ref aMo_labelAt, .ref aMo_labelHeight, .int (iI zRl.labelTop), .int (iI zRq.steps), .ref aMo_tape, .int (iI zMi.taped), .int (bI zMi.there), .int (iI zMi.reason), .ref aMo_arguments, .int (iI zMi.argumentCount), .int (iI zMi.code)])), (aMo_values, .inl (cJ, 12097, .inr (.inl x_18.2.values)))] := ⟨hP_441, hD_441⟩
                  clear hP_441 hD_441
                  obtain ⟨hP_441, hD_441⟩ := hQ9
                  exact ex_out rfl rfl rfl (hno _) hlocks (fun t ht hW => ⟨⟨_, ozt hf ⟨⟨hx_18.1, hx_18.2⟩, rfl, rfl⟩, by rw [ht]; exact hP_441, hD_441⟩, hS_441.F ht⟩) hS_441.2.2
              clear hK_17
              refine lv_icmp_gt (tgt := 196) hx hb d_Mo_numbers_181 (by decide) (fun c_20 => ?_) (fun c_20 => ?_)
              · have c_20 := ((zv_lt (iI_t (show R32 (79) by decide)) (iI_t hy_5))).mp c_20
                replace hf := ifp c_20 hf
                refine lv_iload_n hx hb d_Mo_numbers_196 rfl (lv_at hl 3 rfl) ?_
                refine lv_if_eq (tgt := 215) hx hb d_Mo_numbers_197 (by decide) (fun c_21 => ?_) (fun c_21 => ?_)
                · have c_21 := (zb_f c_21)
                  replace hf := ifn c_21 hf
                  refine lv_aload_n hx hb d_Mo_numbers_215 rfl (lv_at hl 1 rfl) ?_
                  refine lv_iload_n hx hb d_Mo_numbers_216 rfl (lv_at hl 4 rfl) ?_
                  refine lv_lload hx hb d_Mo_numbers_217 (lv_at hl 0 rfl) ?_
                  refine lv_lload hx hb d_Mo_numbers_219 (lv_at hl 5 rfl) ?_
                  refine lv_iconst (v := iI 0) hx hb d_Mo_numbers_221 (by decide) ?_
                  refine W.eq (g2 := F0 m 222 ls [.int (bI false), .long x_7.2, .long x_14.2, .int (iI y_5), .ref aMo, .ref aMo]) (by rfl) ?_
                  replace hf := ob2 hnb hf
                  rcases hf with ⟨x_22, e_23, hf⟩ | ⟨x_22, e_23, hf⟩
                  · refine xx_callV (wc := [(aRf, .inr (12, [tA, tB, tC, tD, tE, tF, .int (iI zRf.reason)])), (aMo, .inr (10, [.ref aRf, .ref aMo_magic, .ref aM1, .ref aM2, .ref aMm, .int (iI zMc.cursor), .int (iI zMc.limit), .ref aMo_blocks, .ref aMo_stack, .int (iI zVt.top), .ref aMo_heights, .ref aMo_labels, .ref aMo_outs, .ref aMo_kinds, .ref aMo_lost, .int (iI zVo.depth), .int (iI zVf.function), .ref aMo_memory, .int (iI zRg.pages), .ref aMo_globals, .ref aMo_values, .int (iI x_14.1.valueTop), .ref aMo_frameFunction, .ref aMo_frameReturn, .ref aMo_frameBase, .ref aMo_frameLabels, .int (iI zRr.frames), .ref aMo_labelAt, .ref aMo_labelHeight, .int (iI zRl.labelTop), .int (iI zRq.steps), .ref aMo_tape, .int (iI zMi.taped), .int (bI zMi.there), .int (iI zMi.reason), .ref aMo_arguments, .int (iI zMi.argumentCount), .int (iI zMi.code)]))]) (wr := [(aMo_values, .inl (cJ, 12097, .inr (.inl x_14.1.values)))]) (As := [.int (iI y_5), .long x_14.2, .long x_7.2, .int (bI false)]) (rest := [.ref aMo]) ⟨hx, hb, hml, hown, hts⟩ xE_st hK hE hA (k_Mo_worked l htr G cB cI cJ cZ cG aRf tA tB tC tD tE tF aMo aMo_magic aM1 aM2 aMm aMo_blocks aMo_stack aMo_heights aMo_labels aMo_outs aMo_kinds aMo_lost aMo_memory aMo_globals aMo_values aMo_frameFunction aMo_frameReturn aMo_frameBase aMo_frameLabels aMo_labelAt aMo_labelHeight aMo_tape aMo_arguments zRf zMc zVt zVo zVf zRg x_14.1 zRr zRl zRq zMi hzRf hzMc hzVt hzVo hzVf hzRg hx_14 hzRr hzRl hzRq hzMi y_5 x_14.2 x_7.2 false hy_5 (.ret x_22) e_23 ret_nb _) (xw_V 4 hts m_1616 m_1618 ms_Mo_worked m_11 m_1619 (by decide +kernel) ⟨(Nat.le_of_ble_eq_true rfl), (Nat.le_of_ble_eq_true rfl)⟩) hP_431 hD_431 hS_431 [0, 1] [2] rfl rfl (by decide +kernel) (by decide +kernel) (by decide +kernel) 1 10 rfl rfl rfl rfl hl.1 rfl (Nat.le_of_ble_eq_true rfl) d_Mo_numbers_222 ⟨(Nat.le_of_ble_eq_true rfl), (Nat.le_of_ble_eq_true rfl)⟩ (fun v9 w9 H_442 locs_442 hp hP_442 hD_442 hS_442 => ?_) (fun x9 w9 H9 l9 hp _ _ _ => absurd hp (fun q9 => by obtain ⟨-, ho, -⟩ := q9; cases ho))
                    clear hS_431 hD_431 hP_431
                    obtain ⟨hx_22, ho, rfl⟩ := hp
                    cases ho
                    have hQ9 : (fun w9 => va_P G classes w9 H_442 ∧ va_D A w9) [(aMo_values, .inl (cJ, 12097, .inr (.inl x_14.1.values))), (aRf, .inr (12, [tA, tB, tC, tD, tE, tF, .int (iI x_22.1.reason)])), (aMo, .inr (10, [.ref aRf, .ref aMo_magic, .ref aM1, .ref aM2, .ref aMm, .int (iI zMc.cursor), .int (iI zMc.limit), .ref aMo_blocks, .ref aMo_stack, .int (iI zVt.top), .ref aMo_heights, .ref aMo_labels, .ref aMo_outs, .ref aMo_kinds, .ref aMo_lost, .int (iI zVo.depth), .int (iI zVf.function), .ref aMo_memory, .int (iI zRg.pages), .ref aMo_globals, .ref aMo_values, .int (iI x_14.1.valueTop), .ref aMo_frameFunction, .ref aMo_frameReturn, .ref aMo_frameBase, .ref aMo_frameLabels, .int (iI zRr.frames), .ref aMo_labelAt, .ref aMo_labelHeight, .int (iI zRl.labelTop), .int (iI zRq.steps), .ref aMo_tape, .int (iI zMi.taped), .int (bI zMi.there), .int (iI zMi.reason), .ref aMo_arguments, .int (iI zMi.argumentCount), .int (iI zMi.code)]))] := ⟨hP_442, hD_442⟩
                    clear hP_442 hD_442
                    obtain ⟨hP_442, hD_442⟩ := hQ9
                    exact hJK_17 (x_22.1, x_22.2) hx_22 hf _ _ (hP_442.sub [1, 2, 0] rfl) (hD_442.sub [1, 2, 0] (by decide +kernel) rfl) hS_442 _ (lv_sub hl [1, 2, 3, 4, 5, 0] rfl)
                  · refine xx_callV (wc := [(aRf, .inr (12, [tA, tB, tC, tD, tE, tF, .int (iI zRf.reason)])), (aMo, .inr (10, [.ref aRf, .ref aMo_magic, .ref aM1, .ref aM2, .ref aMm, .int (iI zMc.cursor), .int (iI zMc.limit), .ref aMo_blocks, .ref aMo_stack, .int (iI zVt.top), .ref aMo_heights, .ref aMo_labels, .ref aMo_outs, .ref aMo_kinds, .ref aMo_lost, .int (iI zVo.depth), .int (iI zVf.function), .ref aMo_memory, .int (iI zRg.pages), .ref aMo_globals, .ref aMo_values, .int (iI x_14.1.valueTop), .ref aMo_frameFunction, .ref aMo_frameReturn, .ref aMo_frameBase, .ref aMo_frameLabels, .int (iI zRr.frames), .ref aMo_labelAt, .ref aMo_labelHeight, .int (iI zRl.labelTop), .int (iI zRq.steps), .ref aMo_tape, .int (iI zMi.taped), .int (bI zMi.there), .int (iI zMi.reason), .ref aMo_arguments, .int (iI zMi.argumentCount), .int (iI zMi.code)]))]) (wr := [(aMo_values, .inl (cJ, 12097, .inr (.inl x_14.1.values)))]) (As := [.int (iI y_5), .long x_14.2, .long x_7.2, .int (bI false)]) (rest := [.ref aMo]) ⟨hx, hb, hml, hown, hts⟩ xE_st hK hE hA (k_Mo_worked l htr G cB cI cJ cZ cG aRf tA tB tC tD tE tF aMo aMo_magic aM1 aM2 aMm aMo_blocks aMo_stack aMo_heights aMo_labels aMo_outs aMo_kinds aMo_lost aMo_memory aMo_globals aMo_values aMo_frameFunction aMo_frameReturn aMo_frameBase aMo_frameLabels aMo_labelAt aMo_labelHeight aMo_tape aMo_arguments zRf zMc zVt zVo zVf zRg x_14.1 zRr zRl zRq zMi hzRf hzMc hzVt hzVo hzVf hzRg hx_14 hzRr hzRl hzRq hzMi y_5 x_14.2 x_7.2 false hy_5 (.thr x_22) e_23 thr_nb _) (xw_V 4 hts m_1616 m_1618 ms_Mo_worked m_11 m_1619 (by decide +kernel) ⟨(Nat.le_of_ble_eq_true rfl), (Nat.le_of_ble_eq_true rfl)⟩) hP_431 hD_431 hS_431 [0, 1] [2] rfl rfl (by decide +kernel) (by decide +kernel) (by decide +kernel) 1 10 rfl rfl rfl rfl hl.1 rfl (Nat.le_of_ble_eq_true rfl) d_Mo_numbers_222 ⟨(Nat.le_of_ble_eq_true rfl), (Nat.le_of_ble_eq_true rfl)⟩ (fun v9 w9 H9 l9 hp _ _ _ => absurd hp (fun q9 => by obtain ⟨-, ho, -⟩ := q9; cases ho)) (fun x9 w9 H_443 locs_443 hp hP_443 hD_443 hS_443 => ?_)
                    clear hS_431 hD_431 hP_431
                    obtain ⟨hx_22, ho, rfl⟩ := hp
                    cases ho
                    have hQ9 : (fun w9 => va_P G classes w9 H_443 ∧ va_D A w9) [(aMo_values, .inl (cJ, 12097, .inr (.inl x_14.1.values))), (aRf, .inr (12, [tA, tB, tC, tD, tE, tF, .int (iI x_22.reason)])), (aMo, .inr (10, [.ref aRf, .ref aMo_magic, .ref aM1, .ref aM2, .ref aMm, .int (iI zMc.cursor), .int (iI zMc.limit), .ref aMo_blocks, .ref aMo_stack, .int (iI zVt.top), .ref aMo_heights, .ref aMo_labels, .ref aMo_outs, .ref aMo_kinds, .ref aMo_lost, .int (iI zVo.depth), .int (iI zVf.function), .ref aMo_memory, .int (iI zRg.pages), .ref aMo_globals, .ref aMo_values, .int (iI x_14.1.valueTop), .ref aMo_frameFunction, .ref aMo_frameReturn, .ref aMo_frameBase, .ref aMo_frameLabels, .int (iI zRr.frames), .ref aMo_labelAt, .ref aMo_labelHeight, .int (iI zRl.labelTop), .int (iI zRq.steps), .ref aMo_tape, .int (iI zMi.taped), .int (bI zMi.there), .int (iI zMi.reason), .ref aMo_arguments, .int (iI zMi.argumentCount), .int (iI zMi.code)]))] := ⟨hP_443, hD_443⟩
                    clear hP_443 hD_443
                    obtain ⟨hP_443, hD_443⟩ := hQ9
                    have hQ9 := pd_sub (ws' := [(aRf, .inr (12, [tA, tB, tC, tD, tE, tF, .int (iI x_22.reason)])), (aMo, .inr (10, [.ref aRf, .ref aMo_magic, .ref aM1, .ref aM2, .ref aMm, .int (iI zMc.cursor), .int (iI zMc.limit), .ref aMo_blocks, .ref aMo_stack, .int (iI zVt.top), .ref aMo_heights, .ref aMo_labels, .ref aMo_outs, .ref aMo_kinds, .ref aMo_lost, .int (iI zVo.depth), .int (iI zVf.function), .ref aMo_memory, .int (iI zRg.pages), .ref aMo_globals, .ref aMo_values, .int (iI x_14.1.valueTop), .ref aMo_frameFunction, .ref aMo_frameReturn, .ref aMo_frameBase, .ref aMo_frameLabels, .int (iI zRr.frames), .ref aMo_labelAt, .ref aMo_labelHeight, .int (iI zRl.labelTop), .int (iI zRq.steps), .ref aMo_tape, .int (iI zMi.taped), .int (bI zMi.there), .int (iI zMi.reason), .ref aMo_arguments, .int (iI zMi.argumentCount), .int (iI zMi.code)])), (aMo_values, .inl (cJ, 12097, .inr (.inl x_14.1.values)))]) hP_443 hD_443 [1, 2, 0] (by decide +kernel) rfl
                    clear hP_443 hD_443
                    obtain ⟨hP_443, hD_443⟩ := hQ9
                    exact ex_out rfl rfl rfl (hno _) hlocks (fun t ht hW => ⟨⟨_, ozt hf ⟨⟨hx_22, hx_14⟩, rfl, rfl⟩, by rw [ht]; exact hP_443, hD_443⟩, hS_443.F ht⟩) hS_443.2.2
                · have c_21 := (zb_t c_21)
                  replace hf := ifp c_21 hf
                  refine lv_aload_n hx hb d_Mo_numbers_200 rfl (lv_at hl 1 rfl) ?_
                  refine lv_iload_n hx hb d_Mo_numbers_201 rfl (lv_at hl 4 rfl) ?_
                  refine lv_lload hx hb d_Mo_numbers_202 (lv_at hl 0 rfl) ?_
                  refine lv_lload hx hb d_Mo_numbers_204 (lv_at hl 5 rfl) ?_
                  refine lv_iconst (v := iI 1) hx hb d_Mo_numbers_206 (by decide) ?_
                  refine W.eq (g2 := F0 m 207 ls [.int (bI true), .long x_7.2, .long x_14.2, .int (iI y_5), .ref aMo, .ref aMo]) (by rfl) ?_
                  replace hf := ob2 hnb hf
                  rcases hf with ⟨x_24, e_25, hf⟩ | ⟨x_24, e_25, hf⟩
                  · refine xx_callV (wc := [(aRf, .inr (12, [tA, tB, tC, tD, tE, tF, .int (iI zRf.reason)])), (aMo, .inr (10, [.ref aRf, .ref aMo_magic, .ref aM1, .ref aM2, .ref aMm, .int (iI zMc.cursor), .int (iI zMc.limit), .ref aMo_blocks, .ref aMo_stack, .int (iI zVt.top), .ref aMo_heights, .ref aMo_labels, .ref aMo_outs, .ref aMo_kinds, .ref aMo_lost, .int (iI zVo.depth), .int (iI zVf.function), .ref aMo_memory, .int (iI zRg.pages), .ref aMo_globals, .ref aMo_values, .int (iI x_14.1.valueTop), .ref aMo_frameFunction, .ref aMo_frameReturn, .ref aMo_frameBase, .ref aMo_frameLabels, .int (iI zRr.frames), .ref aMo_labelAt, .ref aMo_labelHeight, .int (iI zRl.labelTop), .int (iI zRq.steps), .ref aMo_tape, .int (iI zMi.taped), .int (bI zMi.there), .int (iI zMi.reason), .ref aMo_arguments, .int (iI zMi.argumentCount), .int (iI zMi.code)]))]) (wr := [(aMo_values, .inl (cJ, 12097, .inr (.inl x_14.1.values)))]) (As := [.int (iI y_5), .long x_14.2, .long x_7.2, .int (bI true)]) (rest := [.ref aMo]) ⟨hx, hb, hml, hown, hts⟩ xE_st hK hE hA (k_Mo_worked l htr G cB cI cJ cZ cG aRf tA tB tC tD tE tF aMo aMo_magic aM1 aM2 aMm aMo_blocks aMo_stack aMo_heights aMo_labels aMo_outs aMo_kinds aMo_lost aMo_memory aMo_globals aMo_values aMo_frameFunction aMo_frameReturn aMo_frameBase aMo_frameLabels aMo_labelAt aMo_labelHeight aMo_tape aMo_arguments zRf zMc zVt zVo zVf zRg x_14.1 zRr zRl zRq zMi hzRf hzMc hzVt hzVo hzVf hzRg hx_14 hzRr hzRl hzRq hzMi y_5 x_14.2 x_7.2 true hy_5 (.ret x_24) e_25 ret_nb _) (xw_V 4 hts m_1616 m_1618 ms_Mo_worked m_11 m_1619 (by decide +kernel) ⟨(Nat.le_of_ble_eq_true rfl), (Nat.le_of_ble_eq_true rfl)⟩) hP_431 hD_431 hS_431 [0, 1] [2] rfl rfl (by decide +kernel) (by decide +kernel) (by decide +kernel) 1 10 rfl rfl rfl rfl hl.1 rfl (Nat.le_of_ble_eq_true rfl) d_Mo_numbers_207 ⟨(Nat.le_of_ble_eq_true rfl), (Nat.le_of_ble_eq_true rfl)⟩ (fun v9 w9 H_444 locs_444 hp hP_444 hD_444 hS_444 => ?_) (fun x9 w9 H9 l9 hp _ _ _ => absurd hp (fun q9 => by obtain ⟨-, ho, -⟩ := q9; cases ho))
                    clear hS_431 hD_431 hP_431
                    obtain ⟨hx_24, ho, rfl⟩ := hp
                    cases ho
                    have hQ9 : (fun w9 => va_P G classes w9 H_444 ∧ va_D A w9) [(aMo_values, .inl (cJ, 12097, .inr (.inl x_14.1.values))), (aRf, .inr (12, [tA, tB, tC, tD, tE, tF, .int (iI x_24.1.reason)])), (aMo, .inr (10, [.ref aRf, .ref aMo_magic, .ref aM1, .ref aM2, .ref aMm, .int (iI zMc.cursor), .int (iI zMc.limit), .ref aMo_blocks, .ref aMo_stack, .int (iI zVt.top), .ref aMo_heights, .ref aMo_labels, .ref aMo_outs, .ref aMo_kinds, .ref aMo_lost, .int (iI zVo.depth), .int (iI zVf.function), .ref aMo_memory, .int (iI zRg.pages), .ref aMo_globals, .ref aMo_values, .int (iI x_14.1.valueTop), .ref aMo_frameFunction, .ref aMo_frameReturn, .ref aMo_frameBase, .ref aMo_frameLabels, .int (iI zRr.frames), .ref aMo_labelAt, .ref aMo_labelHeight, .int (iI zRl.labelTop), .int (iI zRq.steps), .ref aMo_tape, .int (iI zMi.taped), .int (bI zMi.there), .int (iI zMi.reason), .ref aMo_arguments, .int (iI zMi.argumentCount), .int (iI zMi.code)]))] := ⟨hP_444, hD_444⟩
                    clear hP_444 hD_444
                    obtain ⟨hP_444, hD_444⟩ := hQ9
                    refine lv_l2i hx hb d_Mo_numbers_210 rfl ?_
                    refine lv_i2l hx hb d_Mo_numbers_211 rfl ?_
                    refine lv_goto (tgt := 225) hx hb d_Mo_numbers_212 (by decide) ?_
                    exact hJK_17 (x_24.1, x_24.2.toInt32.toInt64) hx_24 hf _ _ (hP_444.sub [1, 2, 0] rfl) (hD_444.sub [1, 2, 0] (by decide +kernel) rfl) hS_444 _ (lv_sub hl [1, 2, 3, 4, 5, 0] rfl)
                  · refine xx_callV (wc := [(aRf, .inr (12, [tA, tB, tC, tD, tE, tF, .int (iI zRf.reason)])), (aMo, .inr (10, [.ref aRf, .ref aMo_magic, .ref aM1, .ref aM2, .ref aMm, .int (iI zMc.cursor), .int (iI zMc.limit), .ref aMo_blocks, .ref aMo_stack, .int (iI zVt.top), .ref aMo_heights, .ref aMo_labels, .ref aMo_outs, .ref aMo_kinds, .ref aMo_lost, .int (iI zVo.depth), .int (iI zVf.function), .ref aMo_memory, .int (iI zRg.pages), .ref aMo_globals, .ref aMo_values, .int (iI x_14.1.valueTop), .ref aMo_frameFunction, .ref aMo_frameReturn, .ref aMo_frameBase, .ref aMo_frameLabels, .int (iI zRr.frames), .ref aMo_labelAt, .ref aMo_labelHeight, .int (iI zRl.labelTop), .int (iI zRq.steps), .ref aMo_tape, .int (iI zMi.taped), .int (bI zMi.there), .int (iI zMi.reason), .ref aMo_arguments, .int (iI zMi.argumentCount), .int (iI zMi.code)]))]) (wr := [(aMo_values, .inl (cJ, 12097, .inr (.inl x_14.1.values)))]) (As := [.int (iI y_5), .long x_14.2, .long x_7.2, .int (bI true)]) (rest := [.ref aMo]) ⟨hx, hb, hml, hown, hts⟩ xE_st hK hE hA (k_Mo_worked l htr G cB cI cJ cZ cG aRf tA tB tC tD tE tF aMo aMo_magic aM1 aM2 aMm aMo_blocks aMo_stack aMo_heights aMo_labels aMo_outs aMo_kinds aMo_lost aMo_memory aMo_globals aMo_values aMo_frameFunction aMo_frameReturn aMo_frameBase aMo_frameLabels aMo_labelAt aMo_labelHeight aMo_tape aMo_arguments zRf zMc zVt zVo zVf zRg x_14.1 zRr zRl zRq zMi hzRf hzMc hzVt hzVo hzVf hzRg hx_14 hzRr hzRl hzRq hzMi y_5 x_14.2 x_7.2 true hy_5 (.thr x_24) e_25 thr_nb _) (xw_V 4 hts m_1616 m_1618 ms_Mo_worked m_11 m_1619 (by decide +kernel) ⟨(Nat.le_of_ble_eq_true rfl), (Nat.le_of_ble_eq_true rfl)⟩) hP_431 hD_431 hS_431 [0, 1] [2] rfl rfl (by decide +kernel) (by decide +kernel) (by decide +kernel) 1 10 rfl rfl rfl rfl hl.1 rfl (Nat.le_of_ble_eq_true rfl) d_Mo_numbers_207 ⟨(Nat.le_of_ble_eq_true rfl), (Nat.le_of_ble_eq_true rfl)⟩ (fun v9 w9 H9 l9 hp _ _ _ => absurd hp (fun q9 => by obtain ⟨-, ho, -⟩ := q9; cases ho)) (fun x9 w9 H_445 locs_445 hp hP_445 hD_445 hS_445 => ?_)
                    clear hS_431 hD_431 hP_431
                    obtain ⟨hx_24, ho, rfl⟩ := hp
                    cases ho
                    have hQ9 : (fun w9 => va_P G classes w9 H_445 ∧ va_D A w9) [(aMo_values, .inl (cJ, 12097, .inr (.inl x_14.1.values))), (aRf, .inr (12, [tA, tB, tC, tD, tE, tF, .int (iI x_24.reason)])), (aMo, .inr (10, [.ref aRf, .ref aMo_magic, .ref aM1, .ref aM2, .ref aMm, .int (iI zMc.cursor), .int (iI zMc.limit), .ref aMo_blocks, .ref aMo_stack, .int (iI zVt.top), .ref aMo_heights, .ref aMo_labels, .ref aMo_outs, .ref aMo_kinds, .ref aMo_lost, .int (iI zVo.depth), .int (iI zVf.function), .ref aMo_memory, .int (iI zRg.pages), .ref aMo_globals, .ref aMo_values, .int (iI x_14.1.valueTop), .ref aMo_frameFunction, .ref aMo_frameReturn, .ref aMo_frameBase, .ref aMo_frameLabels, .int (iI zRr.frames), .ref aMo_labelAt, .ref aMo_labelHeight, .int (iI zRl.labelTop), .int (iI zRq.steps), .ref aMo_tape, .int (iI zMi.taped), .int (bI zMi.there), .int (iI zMi.reason), .ref aMo_arguments, .int (iI zMi.argumentCount), .int (iI zMi.code)]))] := ⟨hP_445, hD_445⟩
                    clear hP_445 hD_445
                    obtain ⟨hP_445, hD_445⟩ := hQ9
                    have hQ9 := pd_sub (ws' := [(aRf, .inr (12, [tA, tB, tC, tD, tE, tF, .int (iI x_24.reason)])), (aMo, .inr (10, [.ref aRf, .ref aMo_magic, .ref aM1, .ref aM2, .ref aMm, .int (iI zMc.cursor), .int (iI zMc.limit), .ref aMo_blocks, .ref aMo_stack, .int (iI zVt.top), .ref aMo_heights, .ref aMo_labels, .ref aMo_outs, .ref aMo_kinds, .ref aMo_lost, .int (iI zVo.depth), .int (iI zVf.function), .ref aMo_memory, .int (iI zRg.pages), .ref aMo_globals, .ref aMo_values, .int (iI x_14.1.valueTop), .ref aMo_frameFunction, .ref aMo_frameReturn, .ref aMo_frameBase, .ref aMo_frameLabels, .int (iI zRr.frames), .ref aMo_labelAt, .ref aMo_labelHeight, .int (iI zRl.labelTop), .int (iI zRq.steps), .ref aMo_tape, .int (iI zMi.taped), .int (bI zMi.there), .int (iI zMi.reason), .ref aMo_arguments, .int (iI zMi.argumentCount), .int (iI zMi.code)])), (aMo_values, .inl (cJ, 12097, .inr (.inl x_14.1.values)))]) hP_445 hD_445 [1, 2, 0] (by decide +kernel) rfl
                    clear hP_445 hD_445
                    obtain ⟨hP_445, hD_445⟩ := hQ9
                    exact ex_out rfl rfl rfl (hno _) hlocks (fun t ht hW => ⟨⟨_, ozt hf ⟨⟨hx_24, hx_14⟩, rfl, rfl⟩, by rw [ht]; exact hP_445, hD_445⟩, hS_445.F ht⟩) hS_445.2.2
              · have c_20 := (fun q9 => c_20 (((zv_lt (iI_t (show R32 (79) by decide)) (iI_t hy_5))).mpr q9))
                replace hf := ifn c_20 hf
                refine lv_iload_n hx hb d_Mo_numbers_184 rfl (lv_at hl 4 rfl) ?_
                refine lv_lload hx hb d_Mo_numbers_185 (lv_at hl 0 rfl) ?_
                refine lv_lload hx hb d_Mo_numbers_187 (lv_at hl 5 rfl) ?_
                refine lv_iload_n hx hb d_Mo_numbers_189 rfl (lv_at hl 3 rfl) ?_
                replace hf := obE hnb hf
                obtain ⟨x_26, e_27, hf⟩ := hf
                refine xx_callS (wc := []) (wr := [(aRf, .inr (12, [tA, tB, tC, tD, tE, tF, .int (iI zRf.reason)])), (aMo, .inr (10, [.ref aRf, .ref aMo_magic, .ref aM1, .ref aM2, .ref aMm, .int (iI zMc.cursor), .int (iI zMc.limit), .ref aMo_blocks, .ref aMo_stack, .int (iI zVt.top), .ref aMo_heights, .ref aMo_labels, .ref aMo_outs, .ref aMo_kinds, .ref aMo_lost, .int (iI zVo.depth), .int (iI zVf.function), .ref aMo_memory, .int (iI zRg.pages), .ref aMo_globals, .ref aMo_values, .int (iI x_14.1.valueTop), .ref aMo_frameFunction, .ref aMo_frameReturn, .ref aMo_frameBase, .ref aMo_frameLabels, .int (iI zRr.frames), .ref aMo_labelAt, .ref aMo_labelHeight, .int (iI zRl.labelTop), .int (iI zRq.steps), .ref aMo_tape, .int (iI zMi.taped), .int (bI zMi.there), .int (iI zMi.reason), .ref aMo_arguments, .int (iI zMi.argumentCount), .int (iI zMi.code)])), (aMo_values, .inl (cJ, 12097, .inr (.inl x_14.1.values)))]) (As := [.int (iI y_5), .long x_14.2, .long x_7.2, .int (bI y_3)]) (rest := [.ref aMo]) ⟨hx, hb, hml, hown, hts⟩ xE_st hK hE hA (k_Mo_compared l htr G cB cI cJ cZ cG y_5 x_14.2 x_7.2 y_3 hy_5 (.ret x_26) e_27 ret_nb _) (xw_S 4 hts m_1612 m_1613 m_11 m_1614 (by decide +kernel) ⟨(Nat.le_of_ble_eq_true rfl), (Nat.le_of_ble_eq_true rfl)⟩) hP_431 hD_431 hS_431 [] [0, 1, 2] rfl rfl (by decide +kernel) (by decide +kernel) (by decide +kernel) rfl hl.1 rfl (Nat.le_of_ble_eq_true rfl) d_Mo_numbers_190 ⟨(Nat.le_of_ble_eq_true rfl), (Nat.le_of_ble_eq_true rfl)⟩ (fun v9 w9 H_446 locs_446 hp hP_446 hD_446 hS_446 => ?_) (fun x9 w9 H9 l9 hp _ _ _ => absurd hp (fun q9 => by obtain ⟨-, ho, -⟩ := q9; cases ho))
                clear hS_431 hD_431 hP_431
                obtain ⟨hx_26, ho, rfl⟩ := hp
                cases ho
                have hQ9 : (fun w9 => va_P G classes w9 H_446 ∧ va_D A w9) [(aRf, .inr (12, [tA, tB, tC, tD, tE, tF, .int (iI zRf.reason)])), (aMo, .inr (10, [.ref aRf, .ref aMo_magic, .ref aM1, .ref aM2, .ref aMm, .int (iI zMc.cursor), .int (iI zMc.limit), .ref aMo_blocks, .ref aMo_stack, .int (iI zVt.top), .ref aMo_heights, .ref aMo_labels, .ref aMo_outs, .ref aMo_kinds, .ref aMo_lost, .int (iI zVo.depth), .int (iI zVf.function), .ref aMo_memory, .int (iI zRg.pages), .ref aMo_globals, .ref aMo_values, .int (iI x_14.1.valueTop), .ref aMo_frameFunction, .ref aMo_frameReturn, .ref aMo_frameBase, .ref aMo_frameLabels, .int (iI zRr.frames), .ref aMo_labelAt, .ref aMo_labelHeight, .int (iI zRl.labelTop), .int (iI zRq.steps), .ref aMo_tape, .int (iI zMi.taped), .int (bI zMi.there), .int (iI zMi.reason), .ref aMo_arguments, .int (iI zMi.argumentCount), .int (iI zMi.code)])), (aMo_values, .inl (cJ, 12097, .inr (.inl x_14.1.values)))] := ⟨hP_446, hD_446⟩
                clear hP_446 hD_446
                obtain ⟨hP_446, hD_446⟩ := hQ9
                refine lv_goto (tgt := 225) hx hb d_Mo_numbers_193 (by decide) ?_
                exact hJK_17 (zRf, x_26) hzRf hf _ _ hP_446 hD_446 hS_446 _ (lv_sub hl [1, 2, 3, 4, 5, 0] rfl)
            clear hK_13
            refine lv_icmp_lt (tgt := 171) hx hb d_Mo_numbers_135 (by decide) (fun c_28 => ?_) (fun c_28 => ?_)
            · have c_28 := ((zv_lt (iI_t hy_5) (iI_t (show R32 (103) by decide)))).mp c_28
              replace hf := ifp c_28 hf
              exact hJK_13 () trivial hf _ _ hP_347 hD_347 hS_347 _ (lv_sub hl [2, 3, 4, 1, 0] rfl)
            · have c_28 := (fun q9 => c_28 (((zv_lt (iI_t hy_5) (iI_t (show R32 (103) by decide)))).mpr q9))
              replace hf := ifn c_28 hf
              refine lv_iload_n hx hb d_Mo_numbers_138 rfl (lv_at hl 1 rfl) ?_
              refine lv_bipush (v := iI 105) hx hb d_Mo_numbers_139 (by decide) ?_
              refine lv_icmp_gt (tgt := 171) hx hb d_Mo_numbers_141 (by decide) (fun c_29 => ?_) (fun c_29 => ?_)
              · have c_29 := ((zv_lt (iI_t (show R32 (105) by decide)) (iI_t hy_5))).mp c_29
                replace hf := ifp c_29 hf
                exact hJK_13 () trivial hf _ _ hP_347 hD_347 hS_347 _ (lv_sub hl [2, 3, 4, 1, 0] rfl)
              · have c_29 := (fun q9 => c_29 (((zv_lt (iI_t (show R32 (105) by decide)) (iI_t hy_5))).mpr q9))
                replace hf := ifn c_29 hf
                refine lv_aload_n hx hb d_Mo_numbers_144 rfl (lv_at hl 2 rfl) ?_
                refine lv_iload_n hx hb d_Mo_numbers_145 rfl (lv_at hl 4 rfl) ?_
                refine jpE hf (fun K_31 hK_31 hf9 => ?_)
                replace hf := hf9
                clear hf9
                have hJK_31 : ∀ (y_30 : Int64), True → K_31 y_30 = R9 → ∀ (H_347 : Heap) (locs_347 : List Loc), (fun w9 => va_P G classes w9 H_347 → va_D A w9 → va_S A s.heap H_347 locs_347 → ∀ (ls : Array Slot), lv_has ls 8 [(0, .ref aMo), (1, .int (iI v_op)), (2, .int (bI y_3)), (3, .int (iI y_5)), (4, .long x_7.2)] → W p l e (headSpec (wx y_Mo_numbers b_Mo_numbers 8 none) { frames := 3, cells := 0, slots := 0, locals := 75 }).room s m ([.ref aMo, .int (iI v_op)] : List Value).toArray below meth c H_347 locs_347 0 0 (MX below (XQ G classes A (pq_Mo_numbers cJ aRf tA tB tC tD tE tF aMo aMo_magic aM1 aM2 aMm aMo_blocks aMo_stack aMo_heights aMo_labels aMo_outs aMo_kinds aMo_lost aMo_memory aMo_globals aMo_values aMo_frameFunction aMo_frameReturn aMo_frameBase aMo_frameLabels aMo_labelAt aMo_labelHeight aMo_tape aMo_arguments zMc zVt zVo zVf zRg zRr zRl zRq zMi R9)) ([.ref aMo, .int (iI v_op)] : List Value).toArray s 0 0 A) (F0 m 165 ls [.long y_30, .ref aMo])) [(aRf, .inr (12, [tA, tB, tC, tD, tE, tF, .int (iI zRf.reason)])), (aMo, .inr (10, [.ref aRf, .ref aMo_magic, .ref aM1, .ref aM2, .ref aMm, .int (iI zMc.cursor), .int (iI zMc.limit), .ref aMo_blocks, .ref aMo_stack, .int (iI zVt.top), .ref aMo_heights, .ref aMo_labels, .ref aMo_outs, .ref aMo_kinds, .ref aMo_lost, .int (iI zVo.depth), .int (iI zVf.function), .ref aMo_memory, .int (iI zRg.pages), .ref aMo_globals, .ref aMo_values, .int (iI x_7.1.valueTop), .ref aMo_frameFunction, .ref aMo_frameReturn, .ref aMo_frameBase, .ref aMo_frameLabels, .int (iI zRr.frames), .ref aMo_labelAt, .ref aMo_labelHeight, .int (iI zRl.labelTop), .int (iI zRq.steps), .ref aMo_tape, .int (iI zMi.taped), .int (bI zMi.there), .int (iI zMi.reason), .ref aMo_arguments, .int (iI zMi.argumentCount), .int (iI zMi.code)])), (aMo_values, .inl (cJ, 12097, .inr (.inl x_7.1.values)))] := by
                  intro y_30 hy_30 hf H_451 locs_451 hP_451 hD_451 hS_451 ls hl
                  clear hS_347 hD_347 hP_347
                  replace hf := (congrFun hK_31 y_30).symm.trans hf
                  clear hK_31
                  replace hf := ob2 hnb hf
                  rcases hf with ⟨x_32, e_33, hf⟩ | ⟨x_32, e_33, hf⟩
                  · refine xx_callV (wc := [(aRf, .inr (12, [tA, tB, tC, tD, tE, tF, .int (iI zRf.reason)])), (aMo, .inr (10, [.ref aRf, .ref aMo_magic, .ref aM1, .ref aM2, .ref aMm, .int (iI zMc.cursor), .int (iI zMc.limit), .ref aMo_blocks, .ref aMo_stack, .int (iI zVt.top), .ref aMo_heights, .ref aMo_labels, .ref aMo_outs, .ref aMo_kinds, .ref aMo_lost, .int (iI zVo.depth), .int (iI zVf.function), .ref aMo_memory, .int (iI zRg.pages), .ref aMo_globals, .ref aMo_values, .int (iI x_7.1.valueTop), .ref aMo_frameFunction, .ref aMo_frameReturn, .ref aMo_frameBase, .ref aMo_frameLabels, .int (iI zRr.frames), .ref aMo_labelAt, .ref aMo_labelHeight, .int (iI zRl.labelTop), .int (iI zRq.steps), .ref aMo_tape, .int (iI zMi.taped), .int (bI zMi.there), .int (iI zMi.reason), .ref aMo_arguments, .int (iI zMi.argumentCount), .int (iI zMi.code)])), (aMo_values, .inl (cJ, 12097, .inr (.inl x_7.1.values)))]) (wr := []) (As := [.long y_30]) (rest := []) ⟨hx, hb, hml, hown, hts⟩ xE_st hK hE hA (k_Mo_pushValue l htr G cB cI cJ cZ cG aRf tA tB tC tD tE tF aMo aMo_magic aM1 aM2 aMm aMo_blocks aMo_stack aMo_heights aMo_labels aMo_outs aMo_kinds aMo_lost aMo_memory aMo_globals aMo_values aMo_frameFunction aMo_frameReturn aMo_frameBase aMo_frameLabels aMo_labelAt aMo_labelHeight aMo_tape aMo_arguments zRf zMc zVt zVo zVf zRg x_7.1 zRr zRl zRq zMi hzRf hzMc hzVt hzVo hzVf hzRg hx_7 hzRr hzRl hzRq hzMi y_30 (.ret x_32) e_33 ret_nb _) (xw_V 1 hts m_1560 m_1562 ms_Mo_pushValue m_11 m_1563 (by decide +kernel) ⟨(Nat.le_of_ble_eq_true rfl), (Nat.le_of_ble_eq_true rfl)⟩) hP_451 hD_451 hS_451 [0, 1, 2] [] rfl rfl (by decide +kernel) (by decide +kernel) (by decide +kernel) 1 10 rfl rfl rfl rfl hl.1 rfl (Nat.le_of_ble_eq_true rfl) d_Mo_numbers_165 ⟨(Nat.le_of_ble_eq_true rfl), (Nat.le_of_ble_eq_true rfl)⟩ (fun v9 w9 H_452 locs_452 hp hP_452 hD_452 hS_452 => ?_) (fun x9 w9 H9 l9 hp _ _ _ => absurd hp (fun q9 => by obtain ⟨-, ho, -⟩ := q9; cases ho))
                    clear hS_451 hD_451 hP_451
                    obtain ⟨hx_32, ho, rfl⟩ := hp
                    cases ho
                    have hQ9 : (fun w9 => va_P G classes w9 H_452 ∧ va_D A w9) [(aRf, .inr (12, [tA, tB, tC, tD, tE, tF, .int (iI x_32.1.reason)])), (aMo, .inr (10, [.ref aRf, .ref aMo_magic, .ref aM1, .ref aM2, .ref aMm, .int (iI zMc.cursor), .int (iI zMc.limit), .ref aMo_blocks, .ref aMo_stack, .int (iI zVt.top), .ref aMo_heights, .ref aMo_labels, .ref aMo_outs, .ref aMo_kinds, .ref aMo_lost, .int (iI zVo.depth), .int (iI zVf.function), .ref aMo_memory, .int (iI zRg.pages), .ref aMo_globals, .ref aMo_values, .int (iI x_32.2.valueTop), .ref aMo_frameFunction, .ref aMo_frameReturn, .ref aMo_frameBase, .ref aMo_frameLabels, .int (iI zRr.frames), .ref aMo_labelAt, .ref aMo_labelHeight, .int (iI zRl.labelTop), .int (iI zRq.steps), .ref aMo_tape, .int (iI zMi.taped), .int (bI zMi.there), .int (iI zMi.reason), .ref aMo_arguments, .int (iI zMi.argumentCount), .int (iI zMi.code)])), (aMo_values, .inl (cJ, 12097, .inr (.inl x_32.2.values)))] := ⟨hP_452, hD_452⟩
                    clear hP_452 hD_452
                    obtain ⟨hP_452, hD_452⟩ := hQ9
                    refine lv_goto (tgt := 228) hx hb d_Mo_numbers_168 (by decide) ?_
                    exact hJK_10 (x_32.1, x_32.2) ⟨hx_32.1, hx_32.2⟩ hf _ _ hP_452 hD_452 hS_452 _ (lv_sub hl [0, 1, 2, 3, 4] rfl)
                  · refine xx_callV (wc := [(aRf, .inr (12, [tA, tB, tC, tD, tE, tF, .int (iI zRf.reason)])), (aMo, .inr (10, [.ref aRf, .ref aMo_magic, .ref aM1, .ref aM2, .ref aMm, .int (iI zMc.cursor), .int (iI zMc.limit), .ref aMo_blocks, .ref aMo_stack, .int (iI zVt.top), .ref aMo_heights, .ref aMo_labels, .ref aMo_outs, .ref aMo_kinds, .ref aMo_lost, .int (iI zVo.depth), .int (iI zVf.function), .ref aMo_memory, .int (iI zRg.pages), .ref aMo_globals, .ref aMo_values, .int (iI x_7.1.valueTop), .ref aMo_frameFunction, .ref aMo_frameReturn, .ref aMo_frameBase, .ref aMo_frameLabels, .int (iI zRr.frames), .ref aMo_labelAt, .ref aMo_labelHeight, .int (iI zRl.labelTop), .int (iI zRq.steps), .ref aMo_tape, .int (iI zMi.taped), .int (bI zMi.there), .int (iI zMi.reason), .ref aMo_arguments, .int (iI zMi.argumentCount), .int (iI zMi.code)])), (aMo_values, .inl (cJ, 12097, .inr (.inl x_7.1.values)))]) (wr := []) (As := [.long y_30]) (rest := []) ⟨hx, hb, hml, hown, hts⟩ xE_st hK hE hA (k_Mo_pushValue l htr G cB cI cJ cZ cG aRf tA tB tC tD tE tF aMo aMo_magic aM1 aM2 aMm aMo_blocks aMo_stack aMo_heights aMo_labels aMo_outs aMo_kinds aMo_lost aMo_memory aMo_globals aMo_values aMo_frameFunction aMo_frameReturn aMo_frameBase aMo_frameLabels aMo_labelAt aMo_labelHeight aMo_tape aMo_arguments zRf zMc zVt zVo zVf zRg x_7.1 zRr zRl zRq zMi hzRf hzMc hzVt hzVo hzVf hzRg hx_7 hzRr hzRl hzRq hzMi y_30 (.thr x_32) e_33 thr_nb _) (xw_V 1 hts m_1560 m_1562 ms_Mo_pushValue m_11 m_1563 (by decide +kernel) ⟨(Nat.le_of_ble_eq_true rfl), (Nat.le_of_ble_eq_true rfl)⟩) hP_451 hD_451 hS_451 [0, 1, 2] [] rfl rfl (by decide +kernel) (by decide +kernel) (by decide +kernel) 1 10 rfl rfl rfl rfl hl.1 rfl (Nat.le_of_ble_eq_true rfl) d_Mo_numbers_165 ⟨(Nat.le_of_ble_eq_true rfl), (Nat.le_of_ble_eq_true rfl)⟩ (fun v9 w9 H9 l9 hp _ _ _ => absurd hp (fun q9 => by obtain ⟨-, ho, -⟩ := q9; cases ho)) (fun x9 w9 H_453 locs_453 hp hP_453 hD_453 hS_453 => ?_)
                    clear hS_451 hD_451 hP_451
                    obtain ⟨hx_32, ho, rfl⟩ := hp
                    cases ho
                    have hQ9 : (fun w9 => va_P G classes w9 H_453 ∧ va_D A w9) [(aRf, .inr (12, [tA, tB, tC, tD, tE, tF, .int (iI x_32.1.reason)])), (aMo, .inr (10, [.ref aRf, .ref aMo_magic, .ref aM1, .ref aM2, .ref aMm, .int (iI zMc.cursor), .int (iI zMc.limit), .ref aMo_blocks, .ref aMo_stack, .int (iI zVt.top), .ref aMo_heights, .ref aMo_labels, .ref aMo_outs, .ref aMo_kinds, .ref aMo_lost, .int (iI zVo.depth), .int (iI zVf.function), .ref aMo_memory, .int (iI zRg.pages), .ref aMo_globals, .ref aMo_values, .int (iI x_32.2.valueTop), .ref aMo_frameFunction, .ref aMo_frameReturn, .ref aMo_frameBase, .ref aMo_frameLabels, .int (iI zRr.frames), .ref aMo_labelAt, .ref aMo_labelHeight, .int (iI zRl.labelTop), .int (iI zRq.steps), .ref aMo_tape, .int (iI zMi.taped), .int (bI zMi.there), .int (iI zMi.reason), .ref aMo_arguments, .int (iI zMi.argumentCount), .int (iI zMi.code)])), (aMo_values, .inl (cJ, 12097, .inr (.inl x_32.2.values)))] := ⟨hP_453, hD_453⟩
                    clear hP_453 hD_453
                    obtain ⟨hP_453, hD_453⟩ := hQ9
                    exact ex_out rfl rfl rfl (hno _) hlocks (fun t ht hW => ⟨⟨_, ozt hf ⟨⟨hx_32.1, hx_32.2⟩, rfl, rfl⟩, by rw [ht]; exact hP_453, hD_453⟩, hS_453.F ht⟩) hS_453.2.2
                clear hK_31
                refine lv_if_eq (tgt := 159) hx hb d_Mo_numbers_146 (by decide) (fun c_34 => ?_) (fun c_34 => ?_)
                · have c_34 := (zb_f c_34)
                  replace hf := ifn c_34 hf
                  refine lv_iload_n hx hb d_Mo_numbers_159 rfl (lv_at hl 1 rfl) ?_
                  refine lv_lload hx hb d_Mo_numbers_160 (lv_at hl 0 rfl) ?_
                  replace hf := obE hnb hf
                  obtain ⟨x_35, e_36, hf⟩ := hf
                  refine xx_callS (wc := []) (wr := [(aRf, .inr (12, [tA, tB, tC, tD, tE, tF, .int (iI zRf.reason)])), (aMo, .inr (10, [.ref aRf, .ref aMo_magic, .ref aM1, .ref aM2, .ref aMm, .int (iI zMc.cursor), .int (iI zMc.limit), .ref aMo_blocks, .ref aMo_stack, .int (iI zVt.top), .ref aMo_heights, .ref aMo_labels, .ref aMo_outs, .ref aMo_kinds, .ref aMo_lost, .int (iI zVo.depth), .int (iI zVf.function), .ref aMo_memory, .int (iI zRg.pages), .ref aMo_globals, .ref aMo_values, .int (iI x_7.1.valueTop), .ref aMo_frameFunction, .ref aMo_frameReturn, .ref aMo_frameBase, .ref aMo_frameLabels, .int (iI zRr.frames), .ref aMo_labelAt, .ref aMo_labelHeight, .int (iI zRl.labelTop), .int (iI zRq.steps), .ref aMo_tape, .int (iI zMi.taped), .int (bI zMi.there), .int (iI zMi.reason), .ref aMo_arguments, .int (iI zMi.argumentCount), .int (iI zMi.code)])), (aMo_values, .inl (cJ, 12097, .inr (.inl x_7.1.values)))]) (As := [.int (iI y_5), .long x_7.2]) (rest := [.ref aMo]) ⟨hx, hb, hml, hown, hts⟩ xE_st hK hE hA (k_Mo_counted64 l htr G cB cI cJ cZ cG y_5 x_7.2 hy_5 fu (.ret x_35) e_36 ret_nb _) (xw_S 2 hts m_1608 m_1609 m_11 m_1610 (by decide +kernel) ⟨(Nat.le_of_ble_eq_true rfl), (Nat.le_of_ble_eq_true rfl)⟩) hP_347 hD_347 hS_347 [] [0, 1, 2] rfl rfl (by decide +kernel) (by decide +kernel) (by decide +kernel) rfl hl.1 rfl (Nat.le_of_ble_eq_true rfl) d_Mo_numbers_162 ⟨(Nat.le_of_ble_eq_true rfl), (Nat.le_of_ble_eq_true rfl)⟩ (fun v9 w9 H_454 locs_454 hp hP_454 hD_454 hS_454 => ?_) (fun x9 w9 H9 l9 hp _ _ _ => absurd hp (fun q9 => by obtain ⟨-, ho, -⟩ := q9; cases ho))
                  clear hS_347 hD_347 hP_347
                  obtain ⟨hx_35, ho, rfl⟩ := hp
                  cases ho
                  have hQ9 : (fun w9 => va_P G classes w9 H_454 ∧ va_D A w9) [(aRf, .inr (12, [tA, tB, tC, tD, tE, tF, .int (iI zRf.reason)])), (aMo, .inr (10, [.ref aRf, .ref aMo_magic, .ref aM1, .ref aM2, .ref aMm, .int (iI zMc.cursor), .int (iI zMc.limit), .ref aMo_blocks, .ref aMo_stack, .int (iI zVt.top), .ref aMo_heights, .ref aMo_labels, .ref aMo_outs, .ref aMo_kinds, .ref aMo_lost, .int (iI zVo.depth), .int (iI zVf.function), .ref aMo_memory, .int (iI zRg.pages), .ref aMo_globals, .ref aMo_values, .int (iI x_7.1.valueTop), .ref aMo_frameFunction, .ref aMo_frameReturn, .ref aMo_frameBase, .ref aMo_frameLabels, .int (iI zRr.frames), .ref aMo_labelAt, .ref aMo_labelHeight, .int (iI zRl.labelTop), .int (iI zRq.steps), .ref aMo_tape, .int (iI zMi.taped), .int (bI zMi.there), .int (iI zMi.reason), .ref aMo_arguments, .int (iI zMi.argumentCount), .int (iI zMi.code)])), (aMo_values, .inl (cJ, 12097, .inr (.inl x_7.1.values)))] := ⟨hP_454, hD_454⟩
                  clear hP_454 hD_454
                  obtain ⟨hP_454, hD_454⟩ := hQ9
                  exact hJK_31 x_35 trivial hf _ _ hP_454 hD_454 hS_454 _ (lv_sub hl [2, 3, 4, 1, 0] rfl)
                · have c_34 := (zb_t c_34)
                  replace hf := ifp c_34 hf
                  refine lv_iload_n hx hb d_Mo_numbers_149 rfl (lv_at hl 1 rfl) ?_
                  refine lv_lload hx hb d_Mo_numbers_150 (lv_at hl 0 rfl) ?_
                  refine lv_l2i hx hb d_Mo_numbers_152 rfl ?_
                  replace hf := obE hnb hf
                  obtain ⟨x_37, e_38, hf⟩ := hf
                  refine xx_callS (wc := []) (wr := [(aRf, .inr (12, [tA, tB, tC, tD, tE, tF, .int (iI zRf.reason)])), (aMo, .inr (10, [.ref aRf, .ref aMo_magic, .ref aM1, .ref aM2, .ref aMm, .int (iI zMc.cursor), .int (iI zMc.limit), .ref aMo_blocks, .ref aMo_stack, .int (iI zVt.top), .ref aMo_heights, .ref aMo_labels, .ref aMo_outs, .ref aMo_kinds, .ref aMo_lost, .int (iI zVo.depth), .int (iI zVf.function), .ref aMo_memory, .int (iI zRg.pages), .ref aMo_globals, .ref aMo_values, .int (iI x_7.1.valueTop), .ref aMo_frameFunction, .ref aMo_frameReturn, .ref aMo_frameBase, .ref aMo_frameLabels, .int (iI zRr.frames), .ref aMo_labelAt, .ref aMo_labelHeight, .int (iI zRl.labelTop), .int (iI zRq.steps), .ref aMo_tape, .int (iI zMi.taped), .int (bI zMi.there), .int (iI zMi.reason), .ref aMo_arguments, .int (iI zMi.argumentCount), .int (iI zMi.code)])), (aMo_values, .inl (cJ, 12097, .inr (.inl x_7.1.values)))]) (As := [.int (iI y_5), .int x_7.2.toInt32]) (rest := [.ref aMo]) ⟨hx, hb, hml, hown, hts⟩ xE_st hK hE hA (k_Mo_counted32 l htr G cB cI cJ cZ cG y_5 x_7.2.toInt32 hy_5 fu (.ret x_37) e_38 ret_nb _) (xw_S 2 hts m_1604 m_1605 m_11 m_1606 (by decide +kernel) ⟨(Nat.le_of_ble_eq_true rfl), (Nat.le_of_ble_eq_true rfl)⟩) hP_347 hD_347 hS_347 [] [0, 1, 2] rfl rfl (by decide +kernel) (by decide +kernel) (by decide +kernel) rfl hl.1 rfl (Nat.le_of_ble_eq_true rfl) d_Mo_numbers_153 ⟨(Nat.le_of_ble_eq_true rfl), (Nat.le_of_ble_eq_true rfl)⟩ (fun v9 w9 H_455 locs_455 hp hP_455 hD_455 hS_455 => ?_) (fun x9 w9 H9 l9 hp _ _ _ => absurd hp (fun q9 => by obtain ⟨-, ho, -⟩ := q9; cases ho))
                  clear hS_347 hD_347 hP_347
                  obtain ⟨hx_37, ho, rfl⟩ := hp
                  cases ho
                  have hQ9 : (fun w9 => va_P G classes w9 H_455 ∧ va_D A w9) [(aRf, .inr (12, [tA, tB, tC, tD, tE, tF, .int (iI zRf.reason)])), (aMo, .inr (10, [.ref aRf, .ref aMo_magic, .ref aM1, .ref aM2, .ref aMm, .int (iI zMc.cursor), .int (iI zMc.limit), .ref aMo_blocks, .ref aMo_stack, .int (iI zVt.top), .ref aMo_heights, .ref aMo_labels, .ref aMo_outs, .ref aMo_kinds, .ref aMo_lost, .int (iI zVo.depth), .int (iI zVf.function), .ref aMo_memory, .int (iI zRg.pages), .ref aMo_globals, .ref aMo_values, .int (iI x_7.1.valueTop), .ref aMo_frameFunction, .ref aMo_frameReturn, .ref aMo_frameBase, .ref aMo_frameLabels, .int (iI zRr.frames), .ref aMo_labelAt, .ref aMo_labelHeight, .int (iI zRl.labelTop), .int (iI zRq.steps), .ref aMo_tape, .int (iI zMi.taped), .int (bI zMi.there), .int (iI zMi.reason), .ref aMo_arguments, .int (iI zMi.argumentCount), .int (iI zMi.code)])), (aMo_values, .inl (cJ, 12097, .inr (.inl x_7.1.values)))] := ⟨hP_455, hD_455⟩
                  clear hP_455 hD_455
                  obtain ⟨hP_455, hD_455⟩ := hQ9
                  refine lv_goto (tgt := 165) hx hb d_Mo_numbers_156 (by decide) ?_
                  exact hJK_31 x_37 trivial hf _ _ hP_455 hD_455 hS_455 _ (lv_sub hl [2, 3, 4, 1, 0] rfl)
          · have c_11 := ((zv_eq (iI_t hy_5) (iI_t (show R32 (69) by decide)))).mp c_11
            replace hf := ifp c_11 hf
            refine lv_aload_n hx hb d_Mo_numbers_113 rfl (lv_at hl 2 rfl) ?_
            refine lv_lload hx hb d_Mo_numbers_114 (lv_at hl 0 rfl) ?_
            refine lv_lconst (v := 0) hx hb d_Mo_numbers_116 (by decide) ?_
            refine W.lcmp hx hb d_Mo_numbers_117 ?_
            refine jpE hf (fun K_40 hK_40 hf9 => ?_)
            replace hf := hf9
            clear hf9
            have hJK_40 : ∀ (y_39 : Int64), True → K_40 y_39 = R9 → ∀ (H_347 : Heap) (locs_347 : List Loc), (fun w9 => va_P G classes w9 H_347 → va_D A w9 → va_S A s.heap H_347 locs_347 → ∀ (ls : Array Slot), lv_has ls 8 [(0, .ref aMo), (1, .int (iI v_op)), (2, .int (bI y_3)), (3, .int (iI y_5)), (4, .long x_7.2)] → W p l e (headSpec (wx y_Mo_numbers b_Mo_numbers 8 none) { frames := 3, cells := 0, slots := 0, locals := 75 }).room s m ([.ref aMo, .int (iI v_op)] : List Value).toArray below meth c H_347 locs_347 0 0 (MX below (XQ G classes A (pq_Mo_numbers cJ aRf tA tB tC tD tE tF aMo aMo_magic aM1 aM2 aMm aMo_blocks aMo_stack aMo_heights aMo_labels aMo_outs aMo_kinds aMo_lost aMo_memory aMo_globals aMo_values aMo_frameFunction aMo_frameReturn aMo_frameBase aMo_frameLabels aMo_labelAt aMo_labelHeight aMo_tape aMo_arguments zMc zVt zVo zVf zRg zRr zRl zRq zMi R9)) ([.ref aMo, .int (iI v_op)] : List Value).toArray s 0 0 A) (F0 m 126 ls [.long y_39, .ref aMo])) [(aRf, .inr (12, [tA, tB, tC, tD, tE, tF, .int (iI zRf.reason)])), (aMo, .inr (10, [.ref aRf, .ref aMo_magic, .ref aM1, .ref aM2, .ref aMm, .int (iI zMc.cursor), .int (iI zMc.limit), .ref aMo_blocks, .ref aMo_stack, .int (iI zVt.top), .ref aMo_heights, .ref aMo_labels, .ref aMo_outs, .ref aMo_kinds, .ref aMo_lost, .int (iI zVo.depth), .int (iI zVf.function), .ref aMo_memory, .int (iI zRg.pages), .ref aMo_globals, .ref aMo_values, .int (iI x_7.1.valueTop), .ref aMo_frameFunction, .ref aMo_frameReturn, .ref aMo_frameBase, .ref aMo_frameLabels, .int (iI zRr.frames), .ref aMo_labelAt, .ref aMo_labelHeight, .int (iI zRl.labelTop), .int (iI zRq.steps), .ref aMo_tape, .int (iI zMi.taped), .int (bI zMi.there), .int (iI zMi.reason), .ref aMo_arguments, .int (iI zMi.argumentCount), .int (iI zMi.code)])), (aMo_values, .inl (cJ, 12097, .inr (.inl x_7.1.values)))] := by
              intro y_39 hy_39 hf H_458 locs_458 hP_458 hD_458 hS_458 ls hl
              clear hS_347 hD_347 hP_347
              replace hf := (congrFun hK_40 y_39).symm.trans hf
              clear hK_40
              replace hf := ob2 hnb hf
              rcases hf with ⟨x_41, e_42, hf⟩ | ⟨x_41, e_42, hf⟩
              · refine xx_callV (wc := [(aRf, .inr (12, [tA, tB, tC, tD, tE, tF, .int (iI zRf.reason)])), (aMo, .inr (10, [.ref aRf, .ref aMo_magic, .ref aM1, .ref aM2, .ref aMm, .int (iI zMc.cursor), .int (iI zMc.limit), .ref aMo_blocks, .ref aMo_stack, .int (iI zVt.top), .ref aMo_heights, .ref aMo_labels, .ref aMo_outs, .ref aMo_kinds, .ref aMo_lost, .int (iI zVo.depth), .int (iI zVf.function), .ref aMo_memory, .int (iI zRg.pages), .ref aMo_globals, .ref aMo_values, .int (iI x_7.1.valueTop), .ref aMo_frameFunction, .ref aMo_frameReturn, .ref aMo_frameBase, .ref aMo_frameLabels, .int (iI zRr.frames), .ref aMo_labelAt, .ref aMo_labelHeight, .int (iI zRl.labelTop), .int (iI zRq.steps), .ref aMo_tape, .int (iI zMi.taped), .int (bI zMi.there), .int (iI zMi.reason), .ref aMo_arguments, .int (iI zMi.argumentCount), .int (iI zMi.code)])), (aMo_values, .inl (cJ, 12097, .inr (.inl x_7.1.values)))]) (wr := []) (As := [.long y_39]) (rest := []) ⟨hx, hb, hml, hown, hts⟩ xE_st hK hE hA (k_Mo_pushValue l htr G cB cI cJ cZ cG aRf tA tB tC tD tE tF aMo aMo_magic aM1 aM2 aMm aMo_blocks aMo_stack aMo_heights aMo_labels aMo_outs aMo_kinds aMo_lost aMo_memory aMo_globals aMo_values aMo_frameFunction aMo_frameReturn aMo_frameBase aMo_frameLabels aMo_labelAt aMo_labelHeight aMo_tape aMo_arguments zRf zMc zVt zVo zVf zRg x_7.1 zRr zRl zRq zMi hzRf hzMc hzVt hzVo hzVf hzRg hx_7 hzRr hzRl hzRq hzMi y_39 (.ret x_41) e_42 ret_nb _) (xw_V 1 hts m_1560 m_1562 ms_Mo_pushValue m_11 m_1563 (by decide +kernel) ⟨(Nat.le_of_ble_eq_true rfl), (Nat.le_of_ble_eq_true rfl)⟩) hP_458 hD_458 hS_458 [0, 1, 2] [] rfl rfl (by decide +kernel) (by decide +kernel) (by decide +kernel) 1 10 rfl rfl rfl rfl hl.1 rfl (Nat.le_of_ble_eq_true rfl) d_Mo_numbers_126 ⟨(Nat.le_of_ble_eq_true rfl), (Nat.le_of_ble_eq_true rfl)⟩ (fun v9 w9 H_459 locs_459 hp hP_459 hD_459 hS_459 => ?_) (fun x9 w9 H9 l9 hp _ _ _ => absurd hp (fun q9 => by obtain ⟨-, ho, -⟩ := q9; cases ho))
                clear hS_458 hD_458 hP_458
                obtain ⟨hx_41, ho, rfl⟩ := hp
                cases ho
                have hQ9 : (fun w9 => va_P G classes w9 H_459 ∧ va_D A w9) [(aRf, .inr (12, [tA, tB, tC, tD, tE, tF, .int (iI x_41.1.reason)])), (aMo, .inr (10, [.ref aRf, .ref aMo_magic, .ref aM1, .ref aM2, .ref aMm, .int (iI zMc.cursor), .int (iI zMc.limit), .ref aMo_blocks, .ref aMo_stack, .int (iI zVt.top), .ref aMo_heights, .ref aMo_labels, .ref aMo_outs, .ref aMo_kinds, .ref aMo_lost, .int (iI zVo.depth), .int (iI zVf.function), .ref aMo_memory, .int (iI zRg.pages), .ref aMo_globals, .ref aMo_values, .int (iI x_41.2.valueTop), .ref aMo_frameFunction, .ref aMo_frameReturn, .ref aMo_frameBase, .ref aMo_frameLabels, .int (iI zRr.frames), .ref aMo_labelAt, .ref aMo_labelHeight, .int (iI zRl.labelTop), .int (iI zRq.steps), .ref aMo_tape, .int (iI zMi.taped), .int (bI zMi.there), .int (iI zMi.reason), .ref aMo_arguments, .int (iI zMi.argumentCount), .int (iI zMi.code)])), (aMo_values, .inl (cJ, 12097, .inr (.inl x_41.2.values)))] := ⟨hP_459, hD_459⟩
                clear hP_459 hD_459
                obtain ⟨hP_459, hD_459⟩ := hQ9
                refine lv_goto (tgt := 228) hx hb d_Mo_numbers_129 (by decide) ?_
                exact hJK_10 (x_41.1, x_41.2) ⟨hx_41.1, hx_41.2⟩ hf _ _ hP_459 hD_459 hS_459 _ (lv_sub hl [0, 1, 2, 3, 4] rfl)
              · refine xx_callV (wc := [(aRf, .inr (12, [tA, tB, tC, tD, tE, tF, .int (iI zRf.reason)])), (aMo, .inr (10, [.ref aRf, .ref aMo_magic, .ref aM1, .ref aM2, .ref aMm, .int (iI zMc.cursor), .int (iI zMc.limit), .ref aMo_blocks, .ref aMo_stack, .int (iI zVt.top), .ref aMo_heights, .ref aMo_labels, .ref aMo_outs, .ref aMo_kinds, .ref aMo_lost, .int (iI zVo.depth), .int (iI zVf.function), .ref aMo_memory, .int (iI zRg.pages), .ref aMo_globals, .ref aMo_values, .int (iI x_7.1.valueTop), .ref aMo_frameFunction, .ref aMo_frameReturn, .ref aMo_frameBase, .ref aMo_frameLabels, .int (iI zRr.frames), .ref aMo_labelAt, .ref aMo_labelHeight, .int (iI zRl.labelTop), .int (iI zRq.steps), .ref aMo_tape, .int (iI zMi.taped), .int (bI zMi.there), .int (iI zMi.reason), .ref aMo_arguments, .int (iI zMi.argumentCount), .int (iI zMi.code)])), (aMo_values, .inl (cJ, 12097, .inr (.inl x_7.1.values)))]) (wr := []) (As := [.long y_39]) (rest := []) ⟨hx, hb, hml, hown, hts⟩ xE_st hK hE hA (k_Mo_pushValue l htr G cB cI cJ cZ cG aRf tA tB tC tD tE tF aMo aMo_magic aM1 aM2 aMm aMo_blocks aMo_stack aMo_heights aMo_labels aMo_outs aMo_kinds aMo_lost aMo_memory aMo_globals aMo_values aMo_frameFunction aMo_frameReturn aMo_frameBase aMo_frameLabels aMo_labelAt aMo_labelHeight aMo_tape aMo_arguments zRf zMc zVt zVo zVf zRg x_7.1 zRr zRl zRq zMi hzRf hzMc hzVt hzVo hzVf hzRg hx_7 hzRr hzRl hzRq hzMi y_39 (.thr x_41) e_42 thr_nb _) (xw_V 1 hts m_1560 m_1562 ms_Mo_pushValue m_11 m_1563 (by decide +kernel) ⟨(Nat.le_of_ble_eq_true rfl), (Nat.le_of_ble_eq_true rfl)⟩) hP_458 hD_458 hS_458 [0, 1, 2] [] rfl rfl (by decide +kernel) (by decide +kernel) (by decide +kernel) 1 10 rfl rfl rfl rfl hl.1 rfl (Nat.le_of_ble_eq_true rfl) d_Mo_numbers_126 ⟨(Nat.le_of_ble_eq_true rfl), (Nat.le_of_ble_eq_true rfl)⟩ (fun v9 w9 H9 l9 hp _ _ _ => absurd hp (fun q9 => by obtain ⟨-, ho, -⟩ := q9; cases ho)) (fun x9 w9 H_460 locs_460 hp hP_460 hD_460 hS_460 => ?_)
                clear hS_458 hD_458 hP_458
                obtain ⟨hx_41, ho, rfl⟩ := hp
                cases ho
                have hQ9 : (fun w9 => va_P G classes w9 H_460 ∧ va_D A w9) [(aRf, .inr (12, [tA, tB, tC, tD, tE, tF, .int (iI x_41.1.reason)])), (aMo, .inr (10, [.ref aRf, .ref aMo_magic, .ref aM1, .ref aM2, .ref aMm, .int (iI zMc.cursor), .int (iI zMc.limit), .ref aMo_blocks, .ref aMo_stack, .int (iI zVt.top), .ref aMo_heights, .ref aMo_labels, .ref aMo_outs, .ref aMo_kinds, .ref aMo_lost, .int (iI zVo.depth), .int (iI zVf.function), .ref aMo_memory, .int (iI zRg.pages), .ref aMo_globals, .ref aMo_values, .int (iI x_41.2.valueTop), .ref aMo_frameFunction, .ref aMo_frameReturn, .ref aMo_frameBase, .ref aMo_frameLabels, .int (iI zRr.frames), .ref aMo_labelAt, .ref aMo_labelHeight, .int (iI zRl.labelTop), .int (iI zRq.steps), .ref aMo_tape, .int (iI zMi.taped), .int (bI zMi.there), .int (iI zMi.reason), .ref aMo_arguments, .int (iI zMi.argumentCount), .int (iI zMi.code)])), (aMo_values, .inl (cJ, 12097, .inr (.inl x_41.2.values)))] := ⟨hP_460, hD_460⟩
                clear hP_460 hD_460
                obtain ⟨hP_460, hD_460⟩ := hQ9
                exact ex_out rfl rfl rfl (hno _) hlocks (fun t ht hW => ⟨⟨_, ozt hf ⟨⟨hx_41.1, hx_41.2⟩, rfl, rfl⟩, by rw [ht]; exact hP_460, hD_460⟩, hS_460.F ht⟩) hS_460.2.2
            clear hK_40
            refine lv_if_ne (tgt := 125) hx hb d_Mo_numbers_118 (by decide) (fun c_43 => ?_) (fun c_43 => ?_)
            · have c_43 := (fun q9 => c_43 ((lc_eq).mpr q9))
              replace hf := ifn c_43 hf
              refine lv_lconst (v := 0) hx hb d_Mo_numbers_125 (by decide) ?_
              exact hJK_40 0 trivial hf _ _ hP_347 hD_347 hS_347 _ (lv_sub hl [2, 3, 4, 1, 0] rfl)
            · have c_43 := (lc_eq).mp c_43
              replace hf := ifp c_43 hf
              refine lv_lconst (v := 1) hx hb d_Mo_numbers_121 (by decide) ?_
              refine lv_goto (tgt := 126) hx hb d_Mo_numbers_122 (by decide) ?_
              exact hJK_40 1 trivial hf _ _ hP_347 hD_347 hS_347 _ (lv_sub hl [2, 3, 4, 1, 0] rfl)
        clear hK_6
        refine lv_if_eq (tgt := 83) hx hb d_Mo_numbers_76 (by decide) (fun c_44 => ?_) (fun c_44 => ?_)
        · have c_44 := (zb_f c_44)
          replace hf := ifn c_44 hf
          refine lv_iload_n hx hb d_Mo_numbers_83 rfl (lv_at hl 2 rfl) ?_
          refine lv_bipush (v := iI 90) hx hb d_Mo_numbers_84 (by decide) ?_
          refine lv_icmp_gt (tgt := 96) hx hb d_Mo_numbers_86 (by decide) (fun c_45 => ?_) (fun c_45 => ?_)
          · have c_45 := ((zv_lt (iI_t (show R32 (90) by decide)) (iI_t hv_op))).mp c_45
            replace hf := ifp c_45 hf
            refine lv_iload_n hx hb d_Mo_numbers_96 rfl (lv_at hl 2 rfl) ?_
            refine lv_bipush (v := iI 18) hx hb d_Mo_numbers_97 (by decide) ?_
            refine lv_isub hx hb d_Mo_numbers_99 ?_
            refine lv_topi (fun x9 e9 => ?_)
            obtain rfl : x9 = iI (v_op - 18) := e9.trans (iI_sub _ _)
            replace hf := grd hnb hf
            obtain ⟨g_46, hf⟩ := hf
            exact hJK_6 (v_op - 18) g_46 hf _ _ hP_231 hD_231 hS_231 _ (lv_sub hl [1, 2, 0] rfl)
          · have c_45 := (fun q9 => c_45 (((zv_lt (iI_t (show R32 (90) by decide)) (iI_t hv_op))).mpr q9))
            replace hf := ifn c_45 hf
            refine lv_iload_n hx hb d_Mo_numbers_89 rfl (lv_at hl 2 rfl) ?_
            refine lv_bipush (v := iI 11) hx hb d_Mo_numbers_90 (by decide) ?_
            refine lv_isub hx hb d_Mo_numbers_92 ?_
            refine lv_topi (fun x9 e9 => ?_)
            obtain rfl : x9 = iI (v_op - 11) := e9.trans (iI_sub _ _)
            replace hf := grd hnb hf
            obtain ⟨g_47, hf⟩ := hf
            refine lv_goto (tgt := 100) hx hb d_Mo_numbers_93 (by decide) ?_
            exact hJK_6 (v_op - 11) g_47 hf _ _ hP_231 hD_231 hS_231 _ (lv_sub hl [1, 2, 0] rfl)
        · have c_44 := (zb_t c_44)
          replace hf := ifp c_44 hf
          refine lv_iload_n hx hb d_Mo_numbers_79 rfl (lv_at hl 2 rfl) ?_
          refine lv_goto (tgt := 100) hx hb d_Mo_numbers_80 (by decide) ?_
          exact hJK_6 v_op hv_op hf _ _ hP_231 hD_231 hS_231 _ (lv_sub hl [1, 2, 0] rfl)
      clear hK_4
      refine jpE hf (fun K_49 hK_49 hf9 => ?_)
      replace hf := hf9
      clear hf9
      have hJK_49 : ∀ (y_48 : Unit), True → K_49 y_48 = R9 → ∀ (H : Heap) (locs : List Loc), (fun w9 => va_P G classes w9 H → va_D A w9 → va_S A s.heap H locs → ∀ (ls : Array Slot), lv_has ls 8 [(0, .ref aMo), (1, .int (iI v_op))] → W p l e (headSpec (wx y_Mo_numbers b_Mo_numbers 8 none) { frames := 3, cells := 0, slots := 0, locals := 75 }).room s m ([.ref aMo, .int (iI v_op)] : List Value).toArray below meth c H locs 0 0 (MX below (XQ G classes A (pq_Mo_numbers cJ aRf tA tB tC tD tE tF aMo aMo_magic aM1 aM2 aMm aMo_blocks aMo_stack aMo_heights aMo_labels aMo_outs aMo_kinds aMo_lost aMo_memory aMo_globals aMo_values aMo_frameFunction aMo_frameReturn aMo_frameBase aMo_frameLabels aMo_labelAt aMo_labelHeight aMo_tape aMo_arguments zMc zVt zVo zVf zRg zRr zRl zRq zMi R9)) ([.ref aMo, .int (iI v_op)] : List Value).toArray s 0 0 A) (F0 m 69 ls [])) [(aRf, .inr (12, [tA, tB, tC, tD, tE, tF, .int (iI zRf.reason)])), (aMo, .inr (10, [.ref aRf, .ref aMo_magic, .ref aM1, .ref aM2, .ref aMm, .int (iI zMc.cursor), .int (iI zMc.limit), .ref aMo_blocks, .ref aMo_stack, .int (iI zVt.top), .ref aMo_heights, .ref aMo_labels, .ref aMo_outs, .ref aMo_kinds, .ref aMo_lost, .int (iI zVo.depth), .int (iI zVf.function), .ref aMo_memory, .int (iI zRg.pages), .ref aMo_globals, .ref aMo_values, .int (iI zRs.valueTop), .ref aMo_frameFunction, .ref aMo_frameReturn, .ref aMo_frameBase, .ref aMo_frameLabels, .int (iI zRr.frames), .ref aMo_labelAt, .ref aMo_labelHeight, .int (iI zRl.labelTop), .int (iI zRq.steps), .ref aMo_tape, .int (iI zMi.taped), .int (bI zMi.there), .int (iI zMi.reason), .ref aMo_arguments, .int (iI zMi.argumentCount), .int (iI zMi.code)])), (aMo_values, .inl (cJ, 12097, .inr (.inl zRs.values)))] := by
        intro y_48 hy_48 hf H_461 locs_461 hP_461 hD_461 hS_461 ls hl
        clear hS hD hP
        replace hf := (congrFun hK_49 y_48).symm.trans hf
        clear hK_49
        refine lv_iconst (v := iI 1) hx hb d_Mo_numbers_69 (by decide) ?_
        refine lv_goto (tgt := 74) hx hb d_Mo_numbers_70 (by decide) ?_
        refine W.eq (g2 := F0 m 74 ls [.int (bI true)]) (by rfl) ?_
        exact hJK_4 true trivial hf _ _ hP_461 hD_461 hS_461 _ (lv_sub hl [0, 1] rfl)
      clear hK_49
      refine lv_icmp_le (tgt := 69) hx hb d_Mo_numbers_54 (by decide) (fun c_50 => ?_) (fun c_50 => ?_)
      · have c_50 := ((zv_le (iI_t hv_op) (iI_t (show R32 (79) by decide)))).mp c_50
        replace hf := ifp c_50 hf
        exact hJK_49 () trivial hf _ _ hP hD hS _ (lv_sub hl [0, 1] rfl)
      · have c_50 := (fun q9 => c_50 (((zv_le (iI_t hv_op) (iI_t (show R32 (79) by decide)))).mpr q9))
        replace hf := ifn c_50 hf
        refine lv_iload_n hx hb d_Mo_numbers_57 rfl (lv_at hl 1 rfl) ?_
        refine lv_bipush (v := iI 103) hx hb d_Mo_numbers_58 (by decide) ?_
        refine jpE hf (fun K_52 hK_52 hf9 => ?_)
        replace hf := hf9
        clear hf9
        have hJK_52 : ∀ (y_51 : Unit), True → K_52 y_51 = R9 → ∀ (H : Heap) (locs : List Loc), (fun w9 => va_P G classes w9 H → va_D A w9 → va_S A s.heap H locs → ∀ (ls : Array Slot), lv_has ls 8 [(0, .ref aMo), (1, .int (iI v_op))] → W p l e (headSpec (wx y_Mo_numbers b_Mo_numbers 8 none) { frames := 3, cells := 0, slots := 0, locals := 75 }).room s m ([.ref aMo, .int (iI v_op)] : List Value).toArray below meth c H locs 0 0 (MX below (XQ G classes A (pq_Mo_numbers cJ aRf tA tB tC tD tE tF aMo aMo_magic aM1 aM2 aMm aMo_blocks aMo_stack aMo_heights aMo_labels aMo_outs aMo_kinds aMo_lost aMo_memory aMo_globals aMo_values aMo_frameFunction aMo_frameReturn aMo_frameBase aMo_frameLabels aMo_labelAt aMo_labelHeight aMo_tape aMo_arguments zMc zVt zVo zVf zRg zRr zRl zRq zMi R9)) ([.ref aMo, .int (iI v_op)] : List Value).toArray s 0 0 A) (F0 m 73 ls [])) [(aRf, .inr (12, [tA, tB, tC, tD, tE, tF, .int (iI zRf.reason)])), (aMo, .inr (10, [.ref aRf, .ref aMo_magic, .ref aM1, .ref aM2, .ref aMm, .int (iI zMc.cursor), .int (iI zMc.limit), .ref aMo_blocks, .ref aMo_stack, .int (iI zVt.top), .ref aMo_heights, .ref aMo_labels, .ref aMo_outs, .ref aMo_kinds, .ref aMo_lost, .int (iI zVo.depth), .int (iI zVf.function), .ref aMo_memory, .int (iI zRg.pages), .ref aMo_globals, .ref aMo_values, .int (iI zRs.valueTop), .ref aMo_frameFunction, .ref aMo_frameReturn, .ref aMo_frameBase, .ref aMo_frameLabels, .int (iI zRr.frames), .ref aMo_labelAt, .ref aMo_labelHeight, .int (iI zRl.labelTop), .int (iI zRq.steps), .ref aMo_tape, .int (iI zMi.taped), .int (bI zMi.there), .int (iI zMi.reason), .ref aMo_arguments, .int (iI zMi.argumentCount), .int (iI zMi.code)])), (aMo_values, .inl (cJ, 12097, .inr (.inl zRs.values)))] := by
          intro y_51 hy_51 hf H_462 locs_462 hP_462 hD_462 hS_462 ls hl
          clear hS hD hP
          replace hf := (congrFun hK_52 y_51).symm.trans hf
          clear hK_52
          refine lv_iconst (v := iI 0) hx hb d_Mo_numbers_73 (by decide) ?_
          refine W.eq (g2 := F0 m 74 ls [.int (bI false)]) (by rfl) ?_
          exact hJK_4 false trivial hf _ _ hP_462 hD_462 hS_462 _ (lv_sub hl [0, 1] rfl)
        clear hK_52
        refine lv_icmp_lt (tgt := 73) hx hb d_Mo_numbers_60 (by decide) (fun c_53 => ?_) (fun c_53 => ?_)
        · have c_53 := ((zv_lt (iI_t hv_op) (iI_t (show R32 (103) by decide)))).mp c_53
          replace hf := ifp c_53 hf
          exact hJK_52 () trivial hf _ _ hP hD hS _ (lv_sub hl [0, 1] rfl)
        · have c_53 := (fun q9 => c_53 (((zv_lt (iI_t hv_op) (iI_t (show R32 (103) by decide)))).mpr q9))
          replace hf := ifn c_53 hf
          refine lv_iload_n hx hb d_Mo_numbers_63 rfl (lv_at hl 1 rfl) ?_
          refine lv_bipush (v := iI 120) hx hb d_Mo_numbers_64 (by decide) ?_
          refine lv_icmp_gt (tgt := 73) hx hb d_Mo_numbers_66 (by decide) (fun c_54 => ?_) (fun c_54 => ?_)
          · have c_54 := ((zv_lt (iI_t (show R32 (120) by decide)) (iI_t hv_op))).mp c_54
            replace hf := ifp c_54 hf
            exact hJK_52 () trivial hf _ _ hP hD hS _ (lv_sub hl [0, 1] rfl)
          · have c_54 := (fun q9 => c_54 (((zv_lt (iI_t (show R32 (120) by decide)) (iI_t hv_op))).mpr q9))
            replace hf := ifn c_54 hf
            exact hJK_49 () trivial hf _ _ hP hD hS _ (lv_sub hl [0, 1] rfl)
    · have c_2 := (fun q9 => c_2 (((zv_lt (iI_t hv_op) (iI_t (show R32 (172) by decide)))).mpr q9))
      replace hf := ifn c_2 hf
      refine lv_aload_n hx hb d_Mo_numbers_25 rfl (lv_at hl 0 rfl) ?_
      replace hf := obE hnb hf
      obtain ⟨x_55, e_56, hf⟩ := hf
      refine xx_callV (wc := [(aMo, .inr (10, [.ref aRf, .ref aMo_magic, .ref aM1, .ref aM2, .ref aMm, .int (iI zMc.cursor), .int (iI zMc.limit), .ref aMo_blocks, .ref aMo_stack, .int (iI zVt.top), .ref aMo_heights, .ref aMo_labels, .ref aMo_outs, .ref aMo_kinds, .ref aMo_lost, .int (iI zVo.depth), .int (iI zVf.function), .ref aMo_memory, .int (iI zRg.pages), .ref aMo_globals, .ref aMo_values, .int (iI zRs.valueTop), .ref aMo_frameFunction, .ref aMo_frameReturn, .ref aMo_frameBase, .ref aMo_frameLabels, .int (iI zRr.frames), .ref aMo_labelAt, .ref aMo_labelHeight, .int (iI zRl.labelTop), .int (iI zRq.steps), .ref aMo_tape, .int (iI zMi.taped), .int (bI zMi.there), .int (iI zMi.reason), .ref aMo_arguments, .int (iI zMi.argumentCount), .int (iI zMi.code)])), (aMo_values, .inl (cJ, 12097, .inr (.inl zRs.values)))]) (wr := [(aRf, .inr (12, [tA, tB, tC, tD, tE, tF, .int (iI zRf.reason)]))]) (As := []) (rest := []) ⟨hx, hb, hml, hown, hts⟩ xE_st hK hE hA (k_Mo_popValue l htr G cB cI cJ cZ cG aMo aRf aMo_magic aM1 aM2 aMm aMo_blocks aMo_stack aMo_heights aMo_labels aMo_outs aMo_kinds aMo_lost aMo_memory aMo_globals aMo_values aMo_frameFunction aMo_frameReturn aMo_frameBase aMo_frameLabels aMo_labelAt aMo_labelHeight aMo_tape aMo_arguments zMc zVt zVo zVf zRg zRs zRr zRl zRq zMi hzMc hzVt hzVo hzVf hzRg hzRs hzRr hzRl hzRq hzMi (.ret x_55) e_56 ret_nb _) (xw_V 0 hts m_1568 m_1570 ms_Mo_popValue m_11 m_1571 (by decide +kernel) ⟨(Nat.le_of_ble_eq_true rfl), (Nat.le_of_ble_eq_true rfl)⟩) hP hD hS [1, 2] [0] rfl rfl (by decide +kernel) (by decide +kernel) (by decide +kernel) 0 10 rfl rfl rfl rfl hl.1 rfl (Nat.le_of_ble_eq_true rfl) d_Mo_numbers_26 ⟨(Nat.le_of_ble_eq_true rfl), (Nat.le_of_ble_eq_true rfl)⟩ (fun v9 w9 H_463 locs_463 hp hP_463 hD_463 hS_463 => ?_) (fun x9 w9 H9 l9 hp _ _ _ => absurd hp (fun q9 => by obtain ⟨-, ho, -⟩ := q9; cases ho))
      clear hS hD hP
      obtain ⟨hx_55, ho, rfl⟩ := hp
      cases ho
      have hQ9 : (fun w9 => va_P G classes w9 H_463 ∧ va_D A w9) [(aRf, .inr (12, [tA, tB, tC, tD, tE, tF, .int (iI zRf.reason)])), (aMo, .inr (10, [.ref aRf, .ref aMo_magic, .ref aM1, .ref aM2, .ref aMm, .int (iI zMc.cursor), .int (iI zMc.limit), .ref aMo_blocks, .ref aMo_stack, .int (iI zVt.top), .ref aMo_heights, .ref aMo_labels, .ref aMo_outs, .ref aMo_kinds, .ref aMo_lost, .int (iI zVo.depth), .int (iI zVf.function), .ref aMo_memory, .int (iI zRg.pages), .ref aMo_globals, .ref aMo_values, .int (iI x_55.1.valueTop), .ref aMo_frameFunction, .ref aMo_frameReturn, .ref aMo_frameBase, .ref aMo_frameLabels, .int (iI zRr.frames), .ref aMo_labelAt, .ref aMo_labelHeight, .int (iI zRl.labelTop), .int (iI zRq.steps), .ref aMo_tape, .int (iI zMi.taped), .int (bI zMi.there), .int (iI zMi.reason), .ref aMo_arguments, .int (iI zMi.argumentCount), .int (iI zMi.code)])), (aMo_values, .inl (cJ, 12097, .inr (.inl x_55.1.values)))] := ⟨hP_463, hD_463⟩
      clear hP_463 hD_463
      obtain ⟨hP_463, hD_463⟩ := hQ9
      refine lv_lstore_n (lv' := [(2, .long x_55.2), (0, .ref aMo), (1, .int (iI v_op))]) hx hb d_Mo_numbers_29 rfl hl (by decide) rfl (fun ls hl => ?_)
      refine lv_aload_n hx hb d_Mo_numbers_30 rfl (lv_at hl 1 rfl) ?_
      refine lv_iload_n hx hb d_Mo_numbers_31 rfl (lv_at hl 2 rfl) ?_
      refine lv_sipush (v := iI 172) hx hb d_Mo_numbers_32 (by decide) ?_
      refine jpE hf (fun K_58 hK_58 hf9 => ?_)
      replace hf := hf9
      clear hf9
      have hJK_58 : ∀ (y_57 : Int64), True → K_58 y_57 = R9 → ∀ (H_463 : Heap) (locs_463 : List Loc), (fun w9 => va_P G classes w9 H_463 → va_D A w9 → va_S A s.heap H_463 locs_463 → ∀ (ls : Array Slot), lv_has ls 8 [(0, .ref aMo), (1, .int (iI v_op)), (2, .long x_55.2)] → W p l e (headSpec (wx y_Mo_numbers b_Mo_numbers 8 none) { frames := 3, cells := 0, slots := 0, locals := 75 }).room s m ([.ref aMo, .int (iI v_op)] : List Value).toArray below meth c H_463 locs_463 0 0 (MX below (XQ G classes A (pq_Mo_numbers cJ aRf tA tB tC tD tE tF aMo aMo_magic aM1 aM2 aMm aMo_blocks aMo_stack aMo_heights aMo_labels aMo_outs aMo_kinds aMo_lost aMo_memory aMo_globals aMo_values aMo_frameFunction aMo_frameReturn aMo_frameBase aMo_frameLabels aMo_labelAt aMo_labelHeight aMo_tape aMo_arguments zMc zVt zVo zVf zRg zRr zRl zRq zMi R9)) ([.ref aMo, .int (iI v_op)] : List Value).toArray s 0 0 A) (F0 m 47 ls [.long y_57, .ref aMo])) [(aRf, .inr (12, [tA, tB, tC, tD, tE, tF, .int (iI zRf.reason)])), (aMo, .inr (10, [.ref aRf, .ref aMo_magic, .ref aM1, .ref aM2, .ref aMm, .int (iI zMc.cursor), .int (iI zMc.limit), .ref aMo_blocks, .ref aMo_stack, .int (iI zVt.top), .ref aMo_heights, .ref aMo_labels, .ref aMo_outs, .ref aMo_kinds, .ref aMo_lost, .int (iI zVo.depth), .int (iI zVf.function), .ref aMo_memory, .int (iI zRg.pages), .ref aMo_globals, .ref aMo_values, .int (iI x_55.1.valueTop), .ref aMo_frameFunction, .ref aMo_frameReturn, .ref aMo_frameBase, .ref aMo_frameLabels, .int (iI zRr.frames), .ref aMo_labelAt, .ref aMo_labelHeight, .int (iI zRl.labelTop), .int (iI zRq.steps), .ref aMo_tape, .int (iI zMi.taped), .int (bI zMi.there), .int (iI zMi.reason), .ref aMo_arguments, .int (iI zMi.argumentCount), .int (iI zMi.code)])), (aMo_values, .inl (cJ, 12097, .inr (.inl x_55.1.values)))] := by
        intro y_57 hy_57 hf H_466 locs_466 hP_466 hD_466 hS_466 ls hl
        clear hS_463 hD_463 hP_463
        replace hf := (congrFun hK_58 y_57).symm.trans hf
        clear hK_58
        replace hf := ob2 hnb hf
        rcases hf with ⟨x_59, e_60, hf⟩ | ⟨x_59, e_60, hf⟩
        · refine xx_callV (wc := [(aRf, .inr (12, [tA, tB, tC, tD, tE, tF, .int (iI zRf.reason)])), (aMo, .inr (10, [.ref aRf, .ref aMo_magic, .ref aM1, .ref aM2, .ref aMm, .int (iI zMc.cursor), .int (iI zMc.limit), .ref aMo_blocks, .ref aMo_stack, .int (iI zVt.top), .ref aMo_heights, .ref aMo_labels, .ref aMo_outs, .ref aMo_kinds, .ref aMo_lost, .int (iI zVo.depth), .int (iI zVf.function), .ref aMo_memory, .int (iI zRg.pages), .ref aMo_globals, .ref aMo_values, .int (iI x_55.1.valueTop), .ref aMo_frameFunction, .ref aMo_frameReturn, .ref aMo_frameBase, .ref aMo_frameLabels, .int (iI zRr.frames), .ref aMo_labelAt, .ref aMo_labelHeight, .int (iI zRl.labelTop), .int (iI zRq.steps), .ref aMo_tape, .int (iI zMi.taped), .int (bI zMi.there), .int (iI zMi.reason), .ref aMo_arguments, .int (iI zMi.argumentCount), .int (iI zMi.code)])), (aMo_values, .inl (cJ, 12097, .inr (.inl x_55.1.values)))]) (wr := []) (As := [.long y_57]) (rest := []) ⟨hx, hb, hml, hown, hts⟩ xE_st hK hE hA (k_Mo_pushValue l htr G cB cI cJ cZ cG aRf tA tB tC tD tE tF aMo aMo_magic aM1 aM2 aMm aMo_blocks aMo_stack aMo_heights aMo_labels aMo_outs aMo_kinds aMo_lost aMo_memory aMo_globals aMo_values aMo_frameFunction aMo_frameReturn aMo_frameBase aMo_frameLabels aMo_labelAt aMo_labelHeight aMo_tape aMo_arguments zRf zMc zVt zVo zVf zRg x_55.1 zRr zRl zRq zMi hzRf hzMc hzVt hzVo hzVf hzRg hx_55 hzRr hzRl hzRq hzMi y_57 (.ret x_59) e_60 ret_nb _) (xw_V 1 hts m_1560 m_1562 ms_Mo_pushValue m_11 m_1563 (by decide +kernel) ⟨(Nat.le_of_ble_eq_true rfl), (Nat.le_of_ble_eq_true rfl)⟩) hP_466 hD_466 hS_466 [0, 1, 2] [] rfl rfl (by decide +kernel) (by decide +kernel) (by decide +kernel) 1 10 rfl rfl rfl rfl hl.1 rfl (Nat.le_of_ble_eq_true rfl) d_Mo_numbers_47 ⟨(Nat.le_of_ble_eq_true rfl), (Nat.le_of_ble_eq_true rfl)⟩ (fun v9 w9 H_467 locs_467 hp hP_467 hD_467 hS_467 => ?_) (fun x9 w9 H9 l9 hp _ _ _ => absurd hp (fun q9 => by obtain ⟨-, ho, -⟩ := q9; cases ho))
          clear hS_466 hD_466 hP_466
          obtain ⟨hx_59, ho, rfl⟩ := hp
          cases ho
          have hQ9 : (fun w9 => va_P G classes w9 H_467 ∧ va_D A w9) [(aRf, .inr (12, [tA, tB, tC, tD, tE, tF, .int (iI x_59.1.reason)])), (aMo, .inr (10, [.ref aRf, .ref aMo_magic, .ref aM1, .ref aM2, .ref aMm, .int (iI zMc.cursor), .int (iI zMc.limit), .ref aMo_blocks, .ref aMo_stack, .int (iI zVt.top), .ref aMo_heights, .ref aMo_labels, .ref aMo_outs, .ref aMo_kinds, .ref aMo_lost, .int (iI zVo.depth), .int (iI zVf.function), .ref aMo_memory, .int (iI zRg.pages), .ref aMo_globals, .ref aMo_values, .int (iI x_59.2.valueTop), .ref aMo_frameFunction, .ref aMo_frameReturn, .ref aMo_frameBase, .ref aMo_frameLabels, .int (iI zRr.frames), .ref aMo_labelAt, .ref aMo_labelHeight, .int (iI zRl.labelTop), .int (iI zRq.steps), .ref aMo_tape, .int (iI zMi.taped), .int (bI zMi.there), .int (iI zMi.reason), .ref aMo_arguments, .int (iI zMi.argumentCount), .int (iI zMi.code)])), (aMo_values, .inl (cJ, 12097, .inr (.inl x_59.2.values)))] := ⟨hP_467, hD_467⟩
          clear hP_467 hD_467
          obtain ⟨hP_467, hD_467⟩ := hQ9
          exact ex_W (fun _ h => ex_mq h) (W.vret hx hb hr (fun t ht hW => ⟨⟨_, ozr hf ⟨⟨hx_59.1, hx_59.2⟩, rfl, rfl⟩, by rw [ht]; exact hP_467, hD_467⟩, hS_467.F ht⟩) hS_467.2.2 d_Mo_numbers_50)
        · refine xx_callV (wc := [(aRf, .inr (12, [tA, tB, tC, tD, tE, tF, .int (iI zRf.reason)])), (aMo, .inr (10, [.ref aRf, .ref aMo_magic, .ref aM1, .ref aM2, .ref aMm, .int (iI zMc.cursor), .int (iI zMc.limit), .ref aMo_blocks, .ref aMo_stack, .int (iI zVt.top), .ref aMo_heights, .ref aMo_labels, .ref aMo_outs, .ref aMo_kinds, .ref aMo_lost, .int (iI zVo.depth), .int (iI zVf.function), .ref aMo_memory, .int (iI zRg.pages), .ref aMo_globals, .ref aMo_values, .int (iI x_55.1.valueTop), .ref aMo_frameFunction, .ref aMo_frameReturn, .ref aMo_frameBase, .ref aMo_frameLabels, .int (iI zRr.frames), .ref aMo_labelAt, .ref aMo_labelHeight, .int (iI zRl.labelTop), .int (iI zRq.steps), .ref aMo_tape, .int (iI zMi.taped), .int (bI zMi.there), .int (iI zMi.reason), .ref aMo_arguments, .int (iI zMi.argumentCount), .int (iI zMi.code)])), (aMo_values, .inl (cJ, 12097, .inr (.inl x_55.1.values)))]) (wr := []) (As := [.long y_57]) (rest := []) ⟨hx, hb, hml, hown, hts⟩ xE_st hK hE hA (k_Mo_pushValue l htr G cB cI cJ cZ cG aRf tA tB tC tD tE tF aMo aMo_magic aM1 aM2 aMm aMo_blocks aMo_stack aMo_heights aMo_labels aMo_outs aMo_kinds aMo_lost aMo_memory aMo_globals aMo_values aMo_frameFunction aMo_frameReturn aMo_frameBase aMo_frameLabels aMo_labelAt aMo_labelHeight aMo_tape aMo_arguments zRf zMc zVt zVo zVf zRg x_55.1 zRr zRl zRq zMi hzRf hzMc hzVt hzVo hzVf hzRg hx_55 hzRr hzRl hzRq hzMi y_57 (.thr x_59) e_60 thr_nb _) (xw_V 1 hts m_1560 m_1562 ms_Mo_pushValue m_11 m_1563 (by decide +kernel) ⟨(Nat.le_of_ble_eq_true rfl), (Nat.le_of_ble_eq_true rfl)⟩) hP_466 hD_466 hS_466 [0, 1, 2] [] rfl rfl (by decide +kernel) (by decide +kernel) (by decide +kernel) 1 10 rfl rfl rfl rfl hl.1 rfl (Nat.le_of_ble_eq_true rfl) d_Mo_numbers_47 ⟨(Nat.le_of_ble_eq_true rfl), (Nat.le_of_ble_eq_true rfl)⟩ (fun v9 w9 H9 l9 hp _ _ _ => absurd hp (fun q9 => by obtain ⟨-, ho, -⟩ := q9; cases ho)) (fun x9 w9 H_468 locs_468 hp hP_468 hD_468 hS_468 => ?_)
          clear hS_466 hD_466 hP_466
          obtain ⟨hx_59, ho, rfl⟩ := hp
          cases ho
          have hQ9 : (fun w9 => va_P G classes w9 H_468 ∧ va_D A w9) [(aRf, .inr (12, [tA, tB, tC, tD, tE, tF, .int (iI x_59.1.reason)])), (aMo, .inr (10, [.ref aRf, .ref aMo_magic, .ref aM1, .ref aM2, .ref aMm, .int (iI zMc.cursor), .int (iI zMc.limit), .ref aMo_blocks, .ref aMo_stack, .int (iI zVt.top), .ref aMo_heights, .ref aMo_labels, .ref aMo_outs, .ref aMo_kinds, .ref aMo_lost, .int (iI zVo.depth), .int (iI zVf.function), .ref aMo_memory, .int (iI zRg.pages), .ref aMo_globals, .ref aMo_values, .int (iI x_59.2.valueTop), .ref aMo_frameFunction, .ref aMo_frameReturn, .ref aMo_frameBase, .ref aMo_frameLabels, .int (iI zRr.frames), .ref aMo_labelAt, .ref aMo_labelHeight, .int (iI zRl.labelTop), .int (iI zRq.steps), .ref aMo_tape, .int (iI zMi.taped), .int (bI zMi.there), .int (iI zMi.reason), .ref aMo_arguments, .int (iI zMi.argumentCount), .int (iI zMi.code)])), (aMo_values, .inl (cJ, 12097, .inr (.inl x_59.2.values)))] := ⟨hP_468, hD_468⟩
          clear hP_468 hD_468
          obtain ⟨hP_468, hD_468⟩ := hQ9
          exact ex_out rfl rfl rfl (hno _) hlocks (fun t ht hW => ⟨⟨_, ozt hf ⟨⟨hx_59.1, hx_59.2⟩, rfl, rfl⟩, by rw [ht]; exact hP_468, hD_468⟩, hS_468.F ht⟩) hS_468.2.2
      clear hK_58
      refine lv_icmp_ne (tgt := 42) hx hb d_Mo_numbers_35 (by decide) (fun c_61 => ?_) (fun c_61 => ?_)
      · have c_61 := (fun q9 => c_61 (((zv_eq (iI_t hv_op) (iI_t (show R32 (172) by decide)))).mpr q9))
        replace hf := ifn c_61 hf
        refine lv_lload_n hx hb d_Mo_numbers_42 rfl (lv_at hl 0 rfl) ?_
        refine lv_ldc2 (v := 4294967295) hx hb hown (hts _ m_1593) d_Mo_numbers_43 ?_
        refine lv_land hx hb d_Mo_numbers_46 ?_
        exact hJK_58 (x_55.2 &&& 4294967295) trivial hf _ _ hP_463 hD_463 hS_463 _ (lv_sub hl [1, 2, 0] rfl)
      · have c_61 := ((zv_eq (iI_t hv_op) (iI_t (show R32 (172) by decide)))).mp c_61
        replace hf := ifp c_61 hf
        refine lv_lload_n hx hb d_Mo_numbers_38 rfl (lv_at hl 0 rfl) ?_
        refine lv_goto (tgt := 47) hx hb d_Mo_numbers_39 (by decide) ?_
        exact hJK_58 x_55.2 trivial hf _ _ hP_463 hD_463 hS_463 _ (lv_sub hl [1, 2, 0] rfl)
  · have c_1 := ((zv_eq (iI_t hv_op) (iI_t (show R32 (167) by decide)))).mp c_1
    replace hf := ifp c_1 hf
    refine lv_aload_n hx hb d_Mo_numbers_7 rfl (lv_at hl 0 rfl) ?_
    refine lv_aload_n hx hb d_Mo_numbers_8 rfl (lv_at hl 0 rfl) ?_
    replace hf := obE hnb hf
    obtain ⟨x_62, e_63, hf⟩ := hf
    refine xx_callV (wc := [(aMo, .inr (10, [.ref aRf, .ref aMo_magic, .ref aM1, .ref aM2, .ref aMm, .int (iI zMc.cursor), .int (iI zMc.limit), .ref aMo_blocks, .ref aMo_stack, .int (iI zVt.top), .ref aMo_heights, .ref aMo_labels, .ref aMo_outs, .ref aMo_kinds, .ref aMo_lost, .int (iI zVo.depth), .int (iI zVf.function), .ref aMo_memory, .int (iI zRg.pages), .ref aMo_globals, .ref aMo_values, .int (iI zRs.valueTop), .ref aMo_frameFunction, .ref aMo_frameReturn, .ref aMo_frameBase, .ref aMo_frameLabels, .int (iI zRr.frames), .ref aMo_labelAt, .ref aMo_labelHeight, .int (iI zRl.labelTop), .int (iI zRq.steps), .ref aMo_tape, .int (iI zMi.taped), .int (bI zMi.there), .int (iI zMi.reason), .ref aMo_arguments, .int (iI zMi.argumentCount), .int (iI zMi.code)])), (aMo_values, .inl (cJ, 12097, .inr (.inl zRs.values)))]) (wr := [(aRf, .inr (12, [tA, tB, tC, tD, tE, tF, .int (iI zRf.reason)]))]) (As := []) (rest := [.ref aMo]) ⟨hx, hb, hml, hown, hts⟩ xE_st hK hE hA (k_Mo_popValue l htr G cB cI cJ cZ cG aMo aRf aMo_magic aM1 aM2 aMm aMo_blocks aMo_stack aMo_heights aMo_labels aMo_outs aMo_kinds aMo_lost aMo_memory aMo_globals aMo_values aMo_frameFunction aMo_frameReturn aMo_frameBase aMo_frameLabels aMo_labelAt aMo_labelHeight aMo_tape aMo_arguments zMc zVt zVo zVf zRg zRs zRr zRl zRq zMi hzMc hzVt hzVo hzVf hzRg hzRs hzRr hzRl hzRq hzMi (.ret x_62) e_63 ret_nb _) (xw_V 0 hts m_1568 m_1570 ms_Mo_popValue m_11 m_1571 (by decide +kernel) ⟨(Nat.le_of_ble_eq_true rfl), (Nat.le_of_ble_eq_true rfl)⟩) hP hD hS [1, 2] [0] rfl rfl (by decide +kernel) (by decide +kernel) (by decide +kernel) 0 10 rfl rfl rfl rfl hl.1 rfl (Nat.le_of_ble_eq_true rfl) d_Mo_numbers_9 ⟨(Nat.le_of_ble_eq_true rfl), (Nat.le_of_ble_eq_true rfl)⟩ (fun v9 w9 H_469 locs_469 hp hP_469 hD_469 hS_469 => ?_) (fun x9 w9 H9 l9 hp _ _ _ => absurd hp (fun q9 => by obtain ⟨-, ho, -⟩ := q9; cases ho))
    clear hS hD hP
    obtain ⟨hx_62, ho, rfl⟩ := hp
    cases ho
    have hQ9 : (fun w9 => va_P G classes w9 H_469 ∧ va_D A w9) [(aRf, .inr (12, [tA, tB, tC, tD, tE, tF, .int (iI zRf.reason)])), (aMo, .inr (10, [.ref aRf, .ref aMo_magic, .ref aM1, .ref aM2, .ref aMm, .int (iI zMc.cursor), .int (iI zMc.limit), .ref aMo_blocks, .ref aMo_stack, .int (iI zVt.top), .ref aMo_heights, .ref aMo_labels, .ref aMo_outs, .ref aMo_kinds, .ref aMo_lost, .int (iI zVo.depth), .int (iI zVf.function), .ref aMo_memory, .int (iI zRg.pages), .ref aMo_globals, .ref aMo_values, .int (iI x_62.1.valueTop), .ref aMo_frameFunction, .ref aMo_frameReturn, .ref aMo_frameBase, .ref aMo_frameLabels, .int (iI zRr.frames), .ref aMo_labelAt, .ref aMo_labelHeight, .int (iI zRl.labelTop), .int (iI zRq.steps), .ref aMo_tape, .int (iI zMi.taped), .int (bI zMi.there), .int (iI zMi.reason), .ref aMo_arguments, .int (iI zMi.argumentCount), .int (iI zMi.code)])), (aMo_values, .inl (cJ, 12097, .inr (.inl x_62.1.values)))] := ⟨hP_469, hD_469⟩
    clear hP_469 hD_469
    obtain ⟨hP_469, hD_469⟩ := hQ9
    refine lv_l2i hx hb d_Mo_numbers_12 rfl ?_
    refine lv_i2l hx hb d_Mo_numbers_13 rfl ?_
    replace hf := ob2 hnb hf
    rcases hf with ⟨x_64, e_65, hf⟩ | ⟨x_64, e_65, hf⟩
    · refine xx_callV (wc := [(aRf, .inr (12, [tA, tB, tC, tD, tE, tF, .int (iI zRf.reason)])), (aMo, .inr (10, [.ref aRf, .ref aMo_magic, .ref aM1, .ref aM2, .ref aMm, .int (iI zMc.cursor), .int (iI zMc.limit), .ref aMo_blocks, .ref aMo_stack, .int (iI zVt.top), .ref aMo_heights, .ref aMo_labels, .ref aMo_outs, .ref aMo_kinds, .ref aMo_lost, .int (iI zVo.depth), .int (iI zVf.function), .ref aMo_memory, .int (iI zRg.pages), .ref aMo_globals, .ref aMo_values, .int (iI x_62.1.valueTop), .ref aMo_frameFunction, .ref aMo_frameReturn, .ref aMo_frameBase, .ref aMo_frameLabels, .int (iI zRr.frames), .ref aMo_labelAt, .ref aMo_labelHeight, .int (iI zRl.labelTop), .int (iI zRq.steps), .ref aMo_tape, .int (iI zMi.taped), .int (bI zMi.there), .int (iI zMi.reason), .ref aMo_arguments, .int (iI zMi.argumentCount), .int (iI zMi.code)])), (aMo_values, .inl (cJ, 12097, .inr (.inl x_62.1.values)))]) (wr := []) (As := [.long x_62.2.toInt32.toInt64]) (rest := []) ⟨hx, hb, hml, hown, hts⟩ xE_st hK hE hA (k_Mo_pushValue l htr G cB cI cJ cZ cG aRf tA tB tC tD tE tF aMo aMo_magic aM1 aM2 aMm aMo_blocks aMo_stack aMo_heights aMo_labels aMo_outs aMo_kinds aMo_lost aMo_memory aMo_globals aMo_values aMo_frameFunction aMo_frameReturn aMo_frameBase aMo_frameLabels aMo_labelAt aMo_labelHeight aMo_tape aMo_arguments zRf zMc zVt zVo zVf zRg x_62.1 zRr zRl zRq zMi hzRf hzMc hzVt hzVo hzVf hzRg hx_62 hzRr hzRl hzRq hzMi x_62.2.toInt32.toInt64 (.ret x_64) e_65 ret_nb _) (xw_V 1 hts m_1560 m_1562 ms_Mo_pushValue m_11 m_1563 (by decide +kernel) ⟨(Nat.le_of_ble_eq_true rfl), (Nat.le_of_ble_eq_true rfl)⟩) hP_469 hD_469 hS_469 [0, 1, 2] [] rfl rfl (by decide +kernel) (by decide +kernel) (by decide +kernel) 1 10 rfl rfl rfl rfl hl.1 rfl (Nat.le_of_ble_eq_true rfl) d_Mo_numbers_14 ⟨(Nat.le_of_ble_eq_true rfl), (Nat.le_of_ble_eq_true rfl)⟩ (fun v9 w9 H_470 locs_470 hp hP_470 hD_470 hS_470 => ?_) (fun x9 w9 H9 l9 hp _ _ _ => absurd hp (fun q9 => by obtain ⟨-, ho, -⟩ := q9; cases ho))
      clear hS_469 hD_469 hP_469
      obtain ⟨hx_64, ho, rfl⟩ := hp
      cases ho
      have hQ9 : (fun w9 => va_P G classes w9 H_470 ∧ va_D A w9) [(aRf, .inr (12, [tA, tB, tC, tD, tE, tF, .int (iI x_64.1.reason)])), (aMo, .inr (10, [.ref aRf, .ref aMo_magic, .ref aM1, .ref aM2, .ref aMm, .int (iI zMc.cursor), .int (iI zMc.limit), .ref aMo_blocks, .ref aMo_stack, .int (iI zVt.top), .ref aMo_heights, .ref aMo_labels, .ref aMo_outs, .ref aMo_kinds, .ref aMo_lost, .int (iI zVo.depth), .int (iI zVf.function), .ref aMo_memory, .int (iI zRg.pages), .ref aMo_globals, .ref aMo_values, .int (iI x_64.2.valueTop), .ref aMo_frameFunction, .ref aMo_frameReturn, .ref aMo_frameBase, .ref aMo_frameLabels, .int (iI zRr.frames), .ref aMo_labelAt, .ref aMo_labelHeight, .int (iI zRl.labelTop), .int (iI zRq.steps), .ref aMo_tape, .int (iI zMi.taped), .int (bI zMi.there), .int (iI zMi.reason), .ref aMo_arguments, .int (iI zMi.argumentCount), .int (iI zMi.code)])), (aMo_values, .inl (cJ, 12097, .inr (.inl x_64.2.values)))] := ⟨hP_470, hD_470⟩
      clear hP_470 hD_470
      obtain ⟨hP_470, hD_470⟩ := hQ9
      exact ex_W (fun _ h => ex_mq h) (W.vret hx hb hr (fun t ht hW => ⟨⟨_, ozr hf ⟨⟨hx_64.1, hx_64.2⟩, rfl, rfl⟩, by rw [ht]; exact hP_470, hD_470⟩, hS_470.F ht⟩) hS_470.2.2 d_Mo_numbers_17)
    · refine xx_callV (wc := [(aRf, .inr (12, [tA, tB, tC, tD, tE, tF, .int (iI zRf.reason)])), (aMo, .inr (10, [.ref aRf, .ref aMo_magic, .ref aM1, .ref aM2, .ref aMm, .int (iI zMc.cursor), .int (iI zMc.limit), .ref aMo_blocks, .ref aMo_stack, .int (iI zVt.top), .ref aMo_heights, .ref aMo_labels, .ref aMo_outs, .ref aMo_kinds, .ref aMo_lost, .int (iI zVo.depth), .int (iI zVf.function), .ref aMo_memory, .int (iI zRg.pages), .ref aMo_globals, .ref aMo_values, .int (iI x_62.1.valueTop), .ref aMo_frameFunction, .ref aMo_frameReturn, .ref aMo_frameBase, .ref aMo_frameLabels, .int (iI zRr.frames), .ref aMo_labelAt, .ref aMo_labelHeight, .int (iI zRl.labelTop), .int (iI zRq.steps), .ref aMo_tape, .int (iI zMi.taped), .int (bI zMi.there), .int (iI zMi.reason), .ref aMo_arguments, .int (iI zMi.argumentCount), .int (iI zMi.code)])), (aMo_values, .inl (cJ, 12097, .inr (.inl x_62.1.values)))]) (wr := []) (As := [.long x_62.2.toInt32.toInt64]) (rest := []) ⟨hx, hb, hml, hown, hts⟩ xE_st hK hE hA (k_Mo_pushValue l htr G cB cI cJ cZ cG aRf tA tB tC tD tE tF aMo aMo_magic aM1 aM2 aMm aMo_blocks aMo_stack aMo_heights aMo_labels aMo_outs aMo_kinds aMo_lost aMo_memory aMo_globals aMo_values aMo_frameFunction aMo_frameReturn aMo_frameBase aMo_frameLabels aMo_labelAt aMo_labelHeight aMo_tape aMo_arguments zRf zMc zVt zVo zVf zRg x_62.1 zRr zRl zRq zMi hzRf hzMc hzVt hzVo hzVf hzRg hx_62 hzRr hzRl hzRq hzMi x_62.2.toInt32.toInt64 (.thr x_64) e_65 thr_nb _) (xw_V 1 hts m_1560 m_1562 ms_Mo_pushValue m_11 m_1563 (by decide +kernel) ⟨(Nat.le_of_ble_eq_true rfl), (Nat.le_of_ble_eq_true rfl)⟩) hP_469 hD_469 hS_469 [0, 1, 2] [] rfl rfl (by decide +kernel) (by decide +kernel) (by decide +kernel) 1 10 rfl rfl rfl rfl hl.1 rfl (Nat.le_of_ble_eq_true rfl) d_Mo_numbers_14 ⟨(Nat.le_of_ble_eq_true rfl), (Nat.le_of_ble_eq_true rfl)⟩ (fun v9 w9 H9 l9 hp _ _ _ => absurd hp (fun q9 => by obtain ⟨-, ho, -⟩ := q9; cases ho)) (fun x9 w9 H_471 locs_471 hp hP_471 hD_471 hS_471 => ?_)
      clear hS_469 hD_469 hP_469
      obtain ⟨hx_64, ho, rfl⟩ := hp
      cases ho
      have hQ9 : (fun w9 => va_P G classes w9 H_471 ∧ va_D A w9) [(aRf, .inr (12, [tA, tB, tC, tD, tE, tF, .int (iI x_64.1.reason)])), (aMo, .inr (10, [.ref aRf, .ref aMo_magic, .ref aM1, .ref aM2, .ref aMm, .int (iI zMc.cursor), .int (iI zMc.limit), .ref aMo_blocks, .ref aMo_stack, .int (iI zVt.top), .ref aMo_heights, .ref aMo_labels, .ref aMo_outs, .ref aMo_kinds, .ref aMo_lost, .int (iI zVo.depth), .int (iI zVf.function), .ref aMo_memory, .int (iI zRg.pages), .ref aMo_globals, .ref aMo_values, .int (iI x_64.2.valueTop), .ref aMo_frameFunction, .ref aMo_frameReturn, .ref aMo_frameBase, .ref aMo_frameLabels, .int (iI zRr.frames), .ref aMo_labelAt, .ref aMo_labelHeight, .int (iI zRl.labelTop), .int (iI zRq.steps), .ref aMo_tape, .int (iI zMi.taped), .int (bI zMi.there), .int (iI zMi.reason), .ref aMo_arguments, .int (iI zMi.argumentCount), .int (iI zMi.code)])), (aMo_values, .inl (cJ, 12097, .inr (.inl x_64.2.values)))] := ⟨hP_471, hD_471⟩
      clear hP_471 hD_471
      obtain ⟨hP_471, hD_471⟩ := hQ9
      exact ex_out rfl rfl rfl (hno _) hlocks (fun t ht hW => ⟨⟨_, ozt hf ⟨⟨hx_64.1, hx_64.2⟩, rfl, rfl⟩, by rw [ht]; exact hP_471, hD_471⟩, hS_471.F ht⟩) hS_471.2.2
