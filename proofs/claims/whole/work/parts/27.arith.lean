def fReason (op : Int32) (a b least : Int64) : Int32 := if op < 109 then 0 else if 112 < op then 0 else if ¬ lg_cmp b 0 = 0 then (if ¬ op = 109 then 0 else if ¬ lg_cmp a least = 0 then 0 else if ¬ lg_cmp b (-1) = 0 then 0 else 5) else 4
/-- the comparisons, as the class computes them -/
def fCmp (op : Int32) (a b : Int64) : Int32 := if op = 69 then (if lg_cmp a b = 0 then 1 else 0) else if op = 70 then (if lg_cmp a b = 0 then 1 else 0) else if op = 71 then (if lg_cmp a b = 0 then 0 else 1) else if op = 72 then (if 0 ≤ lg_cmp a b then 0 else 1) else if op = 73 then fBelow a b else if op = 74 then (if lg_cmp a b ≤ 0 then 0 else 1) else if op = 75 then fBelow b a else if op = 76 then (if 0 < lg_cmp a b then 0 else 1) else if op = 77 then (if fBelow b a = 0 then 1 else 0) else if op = 78 then (if lg_cmp a b < 0 then 0 else 1) else (if fBelow a b = 0 then 1 else 0)
def fS (b : Int64) : Int32 := b.toInt32
def fJoin (op : Int32) (a b : Int64) : Int64 := if op = 106 then a + b else if op = 107 then a - b else if op = 108 then a * b else if op = 109 then (if ¬ lg_cmp b 0 = 0 then a / b else 0) else if op = 110 then fQuot a b else if op = 111 then (if ¬ lg_cmp b 0 = 0 then a - a / b * b else 0) else if op = 112 then a - fQuot a b * b else if op = 113 then a &&& b else if op = 114 then a ||| b else if op = 115 then a ^^^ b else if op = 116 then a <<< (b.toInt32.toInt64 &&& 63) else if op = 117 then a >>> (b.toInt32.toInt64 &&& 63) else if op = 118 then (a.toUInt64 >>> (b.toInt32.toInt64.toUInt64 &&& Int64.toUInt64 63)).toInt64 else if op = 119 then a <<< (b.toInt32.toInt64 &&& 63) ||| (a.toUInt64 >>> ((-b).toInt32.toInt64.toUInt64 &&& Int64.toUInt64 63)).toInt64 else (a.toUInt64 >>> (b.toInt32.toInt64.toUInt64 &&& Int64.toUInt64 63)).toInt64 ||| a <<< ((-b).toInt32.toInt64 &&& 63)
abbrev b_Ar_quotient : ByteArray := prog_2_method_9_code
def y_Ar_quotient : MethodName := ⟨R_Ar, "quotient", "(JJ)J"⟩
abbrev b_Ar_reasonAgainst : ByteArray := prog_2_method_4_code
def y_Ar_reasonAgainst : MethodName := ⟨R_Ar, "reasonAgainst", "(IJJJ)I"⟩
abbrev b_Ar_compares : ByteArray := prog_2_method_3_code
def y_Ar_compares : MethodName := ⟨R_Ar, "compares", "(IJJ)Z"⟩
abbrev b_Ar_joinLongs : ByteArray := prog_2_method_10_code
def y_Ar_joinLongs : MethodName := ⟨R_Ar, "joinLongs", "(IJJ)J"⟩
theorem d_Ar_quotient_0 : decode b_Ar_quotient 0 = .ok (.lload_n 2, 1) := by decide +kernel
theorem d_Ar_quotient_1 : decode b_Ar_quotient 1 = .ok (.lconst 0, 1) := by decide +kernel
theorem d_Ar_quotient_2 : decode b_Ar_quotient 2 = .ok (.lcmp, 1) := by decide +kernel
theorem d_Ar_quotient_3 : decode b_Ar_quotient 3 = .ok (.ifCond .ne 5, 3) := by decide +kernel
theorem d_Ar_quotient_6 : decode b_Ar_quotient 6 = .ok (.lconst 0, 1) := by decide +kernel
theorem d_Ar_quotient_7 : decode b_Ar_quotient 7 = .ok (.lreturn, 1) := by decide +kernel
theorem d_Ar_quotient_8 : decode b_Ar_quotient 8 = .ok (.lload_n 2, 1) := by decide +kernel
theorem d_Ar_quotient_9 : decode b_Ar_quotient 9 = .ok (.lconst 0, 1) := by decide +kernel
theorem d_Ar_quotient_10 : decode b_Ar_quotient 10 = .ok (.lcmp, 1) := by decide +kernel
theorem d_Ar_quotient_11 : decode b_Ar_quotient 11 = .ok (.ifCond .ge 17, 3) := by decide +kernel
theorem d_Ar_quotient_14 : decode b_Ar_quotient 14 = .ok (.lload_n 0, 1) := by decide +kernel
theorem d_Ar_quotient_15 : decode b_Ar_quotient 15 = .ok (.lload_n 2, 1) := by decide +kernel
theorem d_Ar_quotient_16 : decode b_Ar_quotient 16 = .ok (.invokestatic 13, 3) := by decide +kernel
theorem d_Ar_quotient_19 : decode b_Ar_quotient 19 = .ok (.ifCond .eq 7, 3) := by decide +kernel
theorem d_Ar_quotient_22 : decode b_Ar_quotient 22 = .ok (.lconst 0, 1) := by decide +kernel
theorem d_Ar_quotient_23 : decode b_Ar_quotient 23 = .ok (.goto 4, 3) := by decide +kernel
theorem d_Ar_quotient_26 : decode b_Ar_quotient 26 = .ok (.lconst 1, 1) := by decide +kernel
theorem d_Ar_quotient_27 : decode b_Ar_quotient 27 = .ok (.lreturn, 1) := by decide +kernel
theorem d_Ar_quotient_28 : decode b_Ar_quotient 28 = .ok (.lload_n 0, 1) := by decide +kernel
theorem d_Ar_quotient_29 : decode b_Ar_quotient 29 = .ok (.iconst 1, 1) := by decide +kernel
theorem d_Ar_quotient_30 : decode b_Ar_quotient 30 = .ok (.lushr, 1) := by decide +kernel
theorem d_Ar_quotient_31 : decode b_Ar_quotient 31 = .ok (.lload_n 2, 1) := by decide +kernel
theorem d_Ar_quotient_32 : decode b_Ar_quotient 32 = .ok (.ldiv, 1) := by decide +kernel
theorem d_Ar_quotient_33 : decode b_Ar_quotient 33 = .ok (.iconst 1, 1) := by decide +kernel
theorem d_Ar_quotient_34 : decode b_Ar_quotient 34 = .ok (.lshl, 1) := by decide +kernel
theorem d_Ar_quotient_35 : decode b_Ar_quotient 35 = .ok (.lstore 4, 2) := by decide +kernel
theorem d_Ar_quotient_37 : decode b_Ar_quotient 37 = .ok (.lload_n 0, 1) := by decide +kernel
theorem d_Ar_quotient_38 : decode b_Ar_quotient 38 = .ok (.lload 4, 2) := by decide +kernel
theorem d_Ar_quotient_40 : decode b_Ar_quotient 40 = .ok (.lload_n 2, 1) := by decide +kernel
theorem d_Ar_quotient_41 : decode b_Ar_quotient 41 = .ok (.lmul, 1) := by decide +kernel
theorem d_Ar_quotient_42 : decode b_Ar_quotient 42 = .ok (.lsub, 1) := by decide +kernel
theorem d_Ar_quotient_43 : decode b_Ar_quotient 43 = .ok (.lload_n 2, 1) := by decide +kernel
theorem d_Ar_quotient_44 : decode b_Ar_quotient 44 = .ok (.invokestatic 13, 3) := by decide +kernel
theorem d_Ar_quotient_47 : decode b_Ar_quotient 47 = .ok (.ifCond .eq 8, 3) := by decide +kernel
theorem d_Ar_quotient_50 : decode b_Ar_quotient 50 = .ok (.lload 4, 2) := by decide +kernel
theorem d_Ar_quotient_52 : decode b_Ar_quotient 52 = .ok (.goto 7, 3) := by decide +kernel
theorem d_Ar_quotient_55 : decode b_Ar_quotient 55 = .ok (.lload 4, 2) := by decide +kernel
theorem d_Ar_quotient_57 : decode b_Ar_quotient 57 = .ok (.lconst 1, 1) := by decide +kernel
theorem d_Ar_quotient_58 : decode b_Ar_quotient 58 = .ok (.ladd, 1) := by decide +kernel
theorem d_Ar_quotient_59 : decode b_Ar_quotient 59 = .ok (.lreturn, 1) := by decide +kernel
theorem d_Ar_reasonAgainst_0 : decode b_Ar_reasonAgainst 0 = .ok (.iload_n 0, 1) := by decide +kernel
theorem d_Ar_reasonAgainst_1 : decode b_Ar_reasonAgainst 1 = .ok (.bipush 109, 2) := by decide +kernel
theorem d_Ar_reasonAgainst_3 : decode b_Ar_reasonAgainst 3 = .ok (.if_icmp .lt 9, 3) := by decide +kernel
theorem d_Ar_reasonAgainst_6 : decode b_Ar_reasonAgainst 6 = .ok (.iload_n 0, 1) := by decide +kernel
theorem d_Ar_reasonAgainst_7 : decode b_Ar_reasonAgainst 7 = .ok (.bipush 112, 2) := by decide +kernel
theorem d_Ar_reasonAgainst_9 : decode b_Ar_reasonAgainst 9 = .ok (.if_icmp .le 5, 3) := by decide +kernel
theorem d_Ar_reasonAgainst_12 : decode b_Ar_reasonAgainst 12 = .ok (.iconst 0, 1) := by decide +kernel
theorem d_Ar_reasonAgainst_13 : decode b_Ar_reasonAgainst 13 = .ok (.ireturn, 1) := by decide +kernel
theorem d_Ar_reasonAgainst_14 : decode b_Ar_reasonAgainst 14 = .ok (.lload_n 3, 1) := by decide +kernel
theorem d_Ar_reasonAgainst_15 : decode b_Ar_reasonAgainst 15 = .ok (.lconst 0, 1) := by decide +kernel
theorem d_Ar_reasonAgainst_16 : decode b_Ar_reasonAgainst 16 = .ok (.lcmp, 1) := by decide +kernel
theorem d_Ar_reasonAgainst_17 : decode b_Ar_reasonAgainst 17 = .ok (.ifCond .ne 5, 3) := by decide +kernel
theorem d_Ar_reasonAgainst_20 : decode b_Ar_reasonAgainst 20 = .ok (.iconst 4, 1) := by decide +kernel
theorem d_Ar_reasonAgainst_21 : decode b_Ar_reasonAgainst 21 = .ok (.ireturn, 1) := by decide +kernel
theorem d_Ar_reasonAgainst_22 : decode b_Ar_reasonAgainst 22 = .ok (.iload_n 0, 1) := by decide +kernel
theorem d_Ar_reasonAgainst_23 : decode b_Ar_reasonAgainst 23 = .ok (.bipush 109, 2) := by decide +kernel
theorem d_Ar_reasonAgainst_25 : decode b_Ar_reasonAgainst 25 = .ok (.if_icmp .ne 22, 3) := by decide +kernel
theorem d_Ar_reasonAgainst_28 : decode b_Ar_reasonAgainst 28 = .ok (.lload_n 1, 1) := by decide +kernel
theorem d_Ar_reasonAgainst_29 : decode b_Ar_reasonAgainst 29 = .ok (.lload 5, 2) := by decide +kernel
theorem d_Ar_reasonAgainst_31 : decode b_Ar_reasonAgainst 31 = .ok (.lcmp, 1) := by decide +kernel
theorem d_Ar_reasonAgainst_32 : decode b_Ar_reasonAgainst 32 = .ok (.ifCond .ne 15, 3) := by decide +kernel
theorem d_Ar_reasonAgainst_35 : decode b_Ar_reasonAgainst 35 = .ok (.lload_n 3, 1) := by decide +kernel
theorem d_Ar_reasonAgainst_36 : decode b_Ar_reasonAgainst 36 = .ok (.ldc2_w 19, 3) := by decide +kernel
theorem d_Ar_reasonAgainst_39 : decode b_Ar_reasonAgainst 39 = .ok (.lcmp, 1) := by decide +kernel
theorem d_Ar_reasonAgainst_40 : decode b_Ar_reasonAgainst 40 = .ok (.ifCond .ne 7, 3) := by decide +kernel
theorem d_Ar_reasonAgainst_43 : decode b_Ar_reasonAgainst 43 = .ok (.iconst 5, 1) := by decide +kernel
theorem d_Ar_reasonAgainst_44 : decode b_Ar_reasonAgainst 44 = .ok (.goto 4, 3) := by decide +kernel
theorem d_Ar_reasonAgainst_47 : decode b_Ar_reasonAgainst 47 = .ok (.iconst 0, 1) := by decide +kernel
theorem d_Ar_reasonAgainst_48 : decode b_Ar_reasonAgainst 48 = .ok (.ireturn, 1) := by decide +kernel
theorem d_Ar_compares_0 : decode b_Ar_compares 0 = .ok (.iload_n 0, 1) := by decide +kernel
theorem d_Ar_compares_1 : decode b_Ar_compares 1 = .ok (.tableswitch 153 69 78 #[55, 55, 67, 79, 91, 97, 109, 115, 127, 141], 55) := by decide +kernel
theorem d_Ar_compares_56 : decode b_Ar_compares 56 = .ok (.lload_n 1, 1) := by decide +kernel
theorem d_Ar_compares_57 : decode b_Ar_compares 57 = .ok (.lload_n 3, 1) := by decide +kernel
theorem d_Ar_compares_58 : decode b_Ar_compares 58 = .ok (.lcmp, 1) := by decide +kernel
theorem d_Ar_compares_59 : decode b_Ar_compares 59 = .ok (.ifCond .ne 7, 3) := by decide +kernel
theorem d_Ar_compares_62 : decode b_Ar_compares 62 = .ok (.iconst 1, 1) := by decide +kernel
theorem d_Ar_compares_63 : decode b_Ar_compares 63 = .ok (.goto 4, 3) := by decide +kernel
theorem d_Ar_compares_66 : decode b_Ar_compares 66 = .ok (.iconst 0, 1) := by decide +kernel
theorem d_Ar_compares_67 : decode b_Ar_compares 67 = .ok (.ireturn, 1) := by decide +kernel
theorem d_Ar_compares_68 : decode b_Ar_compares 68 = .ok (.lload_n 1, 1) := by decide +kernel
theorem d_Ar_compares_69 : decode b_Ar_compares 69 = .ok (.lload_n 3, 1) := by decide +kernel
theorem d_Ar_compares_70 : decode b_Ar_compares 70 = .ok (.lcmp, 1) := by decide +kernel
theorem d_Ar_compares_71 : decode b_Ar_compares 71 = .ok (.ifCond .eq 7, 3) := by decide +kernel
theorem d_Ar_compares_74 : decode b_Ar_compares 74 = .ok (.iconst 1, 1) := by decide +kernel
theorem d_Ar_compares_75 : decode b_Ar_compares 75 = .ok (.goto 4, 3) := by decide +kernel
theorem d_Ar_compares_78 : decode b_Ar_compares 78 = .ok (.iconst 0, 1) := by decide +kernel
theorem d_Ar_compares_79 : decode b_Ar_compares 79 = .ok (.ireturn, 1) := by decide +kernel
theorem d_Ar_compares_80 : decode b_Ar_compares 80 = .ok (.lload_n 1, 1) := by decide +kernel
theorem d_Ar_compares_81 : decode b_Ar_compares 81 = .ok (.lload_n 3, 1) := by decide +kernel
theorem d_Ar_compares_82 : decode b_Ar_compares 82 = .ok (.lcmp, 1) := by decide +kernel
theorem d_Ar_compares_83 : decode b_Ar_compares 83 = .ok (.ifCond .ge 7, 3) := by decide +kernel
theorem d_Ar_compares_86 : decode b_Ar_compares 86 = .ok (.iconst 1, 1) := by decide +kernel
theorem d_Ar_compares_87 : decode b_Ar_compares 87 = .ok (.goto 4, 3) := by decide +kernel
theorem d_Ar_compares_90 : decode b_Ar_compares 90 = .ok (.iconst 0, 1) := by decide +kernel
theorem d_Ar_compares_91 : decode b_Ar_compares 91 = .ok (.ireturn, 1) := by decide +kernel
theorem d_Ar_compares_92 : decode b_Ar_compares 92 = .ok (.lload_n 1, 1) := by decide +kernel
theorem d_Ar_compares_93 : decode b_Ar_compares 93 = .ok (.lload_n 3, 1) := by decide +kernel
theorem d_Ar_compares_94 : decode b_Ar_compares 94 = .ok (.invokestatic 13, 3) := by decide +kernel
theorem d_Ar_compares_97 : decode b_Ar_compares 97 = .ok (.ireturn, 1) := by decide +kernel
theorem d_Ar_compares_98 : decode b_Ar_compares 98 = .ok (.lload_n 1, 1) := by decide +kernel
theorem d_Ar_compares_99 : decode b_Ar_compares 99 = .ok (.lload_n 3, 1) := by decide +kernel
theorem d_Ar_compares_100 : decode b_Ar_compares 100 = .ok (.lcmp, 1) := by decide +kernel
theorem d_Ar_compares_101 : decode b_Ar_compares 101 = .ok (.ifCond .le 7, 3) := by decide +kernel
theorem d_Ar_compares_104 : decode b_Ar_compares 104 = .ok (.iconst 1, 1) := by decide +kernel
theorem d_Ar_compares_105 : decode b_Ar_compares 105 = .ok (.goto 4, 3) := by decide +kernel
theorem d_Ar_compares_108 : decode b_Ar_compares 108 = .ok (.iconst 0, 1) := by decide +kernel
theorem d_Ar_compares_109 : decode b_Ar_compares 109 = .ok (.ireturn, 1) := by decide +kernel
theorem d_Ar_compares_110 : decode b_Ar_compares 110 = .ok (.lload_n 3, 1) := by decide +kernel
theorem d_Ar_compares_111 : decode b_Ar_compares 111 = .ok (.lload_n 1, 1) := by decide +kernel
theorem d_Ar_compares_112 : decode b_Ar_compares 112 = .ok (.invokestatic 13, 3) := by decide +kernel
theorem d_Ar_compares_115 : decode b_Ar_compares 115 = .ok (.ireturn, 1) := by decide +kernel
theorem d_Ar_compares_116 : decode b_Ar_compares 116 = .ok (.lload_n 1, 1) := by decide +kernel
theorem d_Ar_compares_117 : decode b_Ar_compares 117 = .ok (.lload_n 3, 1) := by decide +kernel
theorem d_Ar_compares_118 : decode b_Ar_compares 118 = .ok (.lcmp, 1) := by decide +kernel
theorem d_Ar_compares_119 : decode b_Ar_compares 119 = .ok (.ifCond .gt 7, 3) := by decide +kernel
theorem d_Ar_compares_122 : decode b_Ar_compares 122 = .ok (.iconst 1, 1) := by decide +kernel
theorem d_Ar_compares_123 : decode b_Ar_compares 123 = .ok (.goto 4, 3) := by decide +kernel
theorem d_Ar_compares_126 : decode b_Ar_compares 126 = .ok (.iconst 0, 1) := by decide +kernel
theorem d_Ar_compares_127 : decode b_Ar_compares 127 = .ok (.ireturn, 1) := by decide +kernel
theorem d_Ar_compares_128 : decode b_Ar_compares 128 = .ok (.lload_n 3, 1) := by decide +kernel
theorem d_Ar_compares_129 : decode b_Ar_compares 129 = .ok (.lload_n 1, 1) := by decide +kernel
theorem d_Ar_compares_130 : decode b_Ar_compares 130 = .ok (.invokestatic 13, 3) := by decide +kernel
theorem d_Ar_compares_133 : decode b_Ar_compares 133 = .ok (.ifCond .ne 7, 3) := by decide +kernel
theorem d_Ar_compares_136 : decode b_Ar_compares 136 = .ok (.iconst 1, 1) := by decide +kernel
theorem d_Ar_compares_137 : decode b_Ar_compares 137 = .ok (.goto 4, 3) := by decide +kernel
theorem d_Ar_compares_140 : decode b_Ar_compares 140 = .ok (.iconst 0, 1) := by decide +kernel
theorem d_Ar_compares_141 : decode b_Ar_compares 141 = .ok (.ireturn, 1) := by decide +kernel
theorem d_Ar_compares_142 : decode b_Ar_compares 142 = .ok (.lload_n 1, 1) := by decide +kernel
theorem d_Ar_compares_143 : decode b_Ar_compares 143 = .ok (.lload_n 3, 1) := by decide +kernel
theorem d_Ar_compares_144 : decode b_Ar_compares 144 = .ok (.lcmp, 1) := by decide +kernel
theorem d_Ar_compares_145 : decode b_Ar_compares 145 = .ok (.ifCond .lt 7, 3) := by decide +kernel
theorem d_Ar_compares_148 : decode b_Ar_compares 148 = .ok (.iconst 1, 1) := by decide +kernel
theorem d_Ar_compares_149 : decode b_Ar_compares 149 = .ok (.goto 4, 3) := by decide +kernel
theorem d_Ar_compares_152 : decode b_Ar_compares 152 = .ok (.iconst 0, 1) := by decide +kernel
theorem d_Ar_compares_153 : decode b_Ar_compares 153 = .ok (.ireturn, 1) := by decide +kernel
theorem d_Ar_compares_154 : decode b_Ar_compares 154 = .ok (.lload_n 1, 1) := by decide +kernel
theorem d_Ar_compares_155 : decode b_Ar_compares 155 = .ok (.lload_n 3, 1) := by decide +kernel
theorem d_Ar_compares_156 : decode b_Ar_compares 156 = .ok (.invokestatic 13, 3) := by decide +kernel
theorem d_Ar_compares_159 : decode b_Ar_compares 159 = .ok (.ifCond .ne 7, 3) := by decide +kernel
theorem d_Ar_compares_162 : decode b_Ar_compares 162 = .ok (.iconst 1, 1) := by decide +kernel
theorem d_Ar_compares_163 : decode b_Ar_compares 163 = .ok (.goto 4, 3) := by decide +kernel
theorem d_Ar_compares_166 : decode b_Ar_compares 166 = .ok (.iconst 0, 1) := by decide +kernel
theorem d_Ar_compares_167 : decode b_Ar_compares 167 = .ok (.ireturn, 1) := by decide +kernel
theorem d_Ar_joinLongs_0 : decode b_Ar_joinLongs 0 = .ok (.iload_n 0, 1) := by decide +kernel
theorem d_Ar_joinLongs_1 : decode b_Ar_joinLongs 1 = .ok (.tableswitch 165 106 119 #[71, 75, 79, 83, 97, 103, 117, 127, 131, 135, 139, 144, 149, 154], 71) := by decide +kernel
theorem d_Ar_joinLongs_72 : decode b_Ar_joinLongs 72 = .ok (.lload_n 1, 1) := by decide +kernel
theorem d_Ar_joinLongs_73 : decode b_Ar_joinLongs 73 = .ok (.lload_n 3, 1) := by decide +kernel
theorem d_Ar_joinLongs_74 : decode b_Ar_joinLongs 74 = .ok (.ladd, 1) := by decide +kernel
theorem d_Ar_joinLongs_75 : decode b_Ar_joinLongs 75 = .ok (.lreturn, 1) := by decide +kernel
theorem d_Ar_joinLongs_76 : decode b_Ar_joinLongs 76 = .ok (.lload_n 1, 1) := by decide +kernel
theorem d_Ar_joinLongs_77 : decode b_Ar_joinLongs 77 = .ok (.lload_n 3, 1) := by decide +kernel
theorem d_Ar_joinLongs_78 : decode b_Ar_joinLongs 78 = .ok (.lsub, 1) := by decide +kernel
theorem d_Ar_joinLongs_79 : decode b_Ar_joinLongs 79 = .ok (.lreturn, 1) := by decide +kernel
theorem d_Ar_joinLongs_80 : decode b_Ar_joinLongs 80 = .ok (.lload_n 1, 1) := by decide +kernel
theorem d_Ar_joinLongs_81 : decode b_Ar_joinLongs 81 = .ok (.lload_n 3, 1) := by decide +kernel
theorem d_Ar_joinLongs_82 : decode b_Ar_joinLongs 82 = .ok (.lmul, 1) := by decide +kernel
theorem d_Ar_joinLongs_83 : decode b_Ar_joinLongs 83 = .ok (.lreturn, 1) := by decide +kernel
theorem d_Ar_joinLongs_84 : decode b_Ar_joinLongs 84 = .ok (.lload_n 3, 1) := by decide +kernel
theorem d_Ar_joinLongs_85 : decode b_Ar_joinLongs 85 = .ok (.lconst 0, 1) := by decide +kernel
theorem d_Ar_joinLongs_86 : decode b_Ar_joinLongs 86 = .ok (.lcmp, 1) := by decide +kernel
theorem d_Ar_joinLongs_87 : decode b_Ar_joinLongs 87 = .ok (.ifCond .ne 7, 3) := by decide +kernel
theorem d_Ar_joinLongs_90 : decode b_Ar_joinLongs 90 = .ok (.lconst 0, 1) := by decide +kernel
theorem d_Ar_joinLongs_91 : decode b_Ar_joinLongs 91 = .ok (.goto 6, 3) := by decide +kernel
theorem d_Ar_joinLongs_94 : decode b_Ar_joinLongs 94 = .ok (.lload_n 1, 1) := by decide +kernel
theorem d_Ar_joinLongs_95 : decode b_Ar_joinLongs 95 = .ok (.lload_n 3, 1) := by decide +kernel
theorem d_Ar_joinLongs_96 : decode b_Ar_joinLongs 96 = .ok (.ldiv, 1) := by decide +kernel
theorem d_Ar_joinLongs_97 : decode b_Ar_joinLongs 97 = .ok (.lreturn, 1) := by decide +kernel
theorem d_Ar_joinLongs_98 : decode b_Ar_joinLongs 98 = .ok (.lload_n 1, 1) := by decide +kernel
theorem d_Ar_joinLongs_99 : decode b_Ar_joinLongs 99 = .ok (.lload_n 3, 1) := by decide +kernel
theorem d_Ar_joinLongs_100 : decode b_Ar_joinLongs 100 = .ok (.invokestatic 42, 3) := by decide +kernel
theorem d_Ar_joinLongs_103 : decode b_Ar_joinLongs 103 = .ok (.lreturn, 1) := by decide +kernel
theorem d_Ar_joinLongs_104 : decode b_Ar_joinLongs 104 = .ok (.lload_n 3, 1) := by decide +kernel
theorem d_Ar_joinLongs_105 : decode b_Ar_joinLongs 105 = .ok (.lconst 0, 1) := by decide +kernel
theorem d_Ar_joinLongs_106 : decode b_Ar_joinLongs 106 = .ok (.lcmp, 1) := by decide +kernel
theorem d_Ar_joinLongs_107 : decode b_Ar_joinLongs 107 = .ok (.ifCond .ne 7, 3) := by decide +kernel
theorem d_Ar_joinLongs_110 : decode b_Ar_joinLongs 110 = .ok (.lconst 0, 1) := by decide +kernel
theorem d_Ar_joinLongs_111 : decode b_Ar_joinLongs 111 = .ok (.goto 6, 3) := by decide +kernel
theorem d_Ar_joinLongs_114 : decode b_Ar_joinLongs 114 = .ok (.lload_n 1, 1) := by decide +kernel
theorem d_Ar_joinLongs_115 : decode b_Ar_joinLongs 115 = .ok (.lload_n 3, 1) := by decide +kernel
theorem d_Ar_joinLongs_116 : decode b_Ar_joinLongs 116 = .ok (.lrem, 1) := by decide +kernel
theorem d_Ar_joinLongs_117 : decode b_Ar_joinLongs 117 = .ok (.lreturn, 1) := by decide +kernel
theorem d_Ar_joinLongs_118 : decode b_Ar_joinLongs 118 = .ok (.lload_n 1, 1) := by decide +kernel
theorem d_Ar_joinLongs_119 : decode b_Ar_joinLongs 119 = .ok (.lload_n 1, 1) := by decide +kernel
theorem d_Ar_joinLongs_120 : decode b_Ar_joinLongs 120 = .ok (.lload_n 3, 1) := by decide +kernel
theorem d_Ar_joinLongs_121 : decode b_Ar_joinLongs 121 = .ok (.invokestatic 42, 3) := by decide +kernel
theorem d_Ar_joinLongs_124 : decode b_Ar_joinLongs 124 = .ok (.lload_n 3, 1) := by decide +kernel
theorem d_Ar_joinLongs_125 : decode b_Ar_joinLongs 125 = .ok (.lmul, 1) := by decide +kernel
theorem d_Ar_joinLongs_126 : decode b_Ar_joinLongs 126 = .ok (.lsub, 1) := by decide +kernel
theorem d_Ar_joinLongs_127 : decode b_Ar_joinLongs 127 = .ok (.lreturn, 1) := by decide +kernel
theorem d_Ar_joinLongs_128 : decode b_Ar_joinLongs 128 = .ok (.lload_n 1, 1) := by decide +kernel
theorem d_Ar_joinLongs_129 : decode b_Ar_joinLongs 129 = .ok (.lload_n 3, 1) := by decide +kernel
theorem d_Ar_joinLongs_130 : decode b_Ar_joinLongs 130 = .ok (.land, 1) := by decide +kernel
theorem d_Ar_joinLongs_131 : decode b_Ar_joinLongs 131 = .ok (.lreturn, 1) := by decide +kernel
theorem d_Ar_joinLongs_132 : decode b_Ar_joinLongs 132 = .ok (.lload_n 1, 1) := by decide +kernel
theorem d_Ar_joinLongs_133 : decode b_Ar_joinLongs 133 = .ok (.lload_n 3, 1) := by decide +kernel
theorem d_Ar_joinLongs_134 : decode b_Ar_joinLongs 134 = .ok (.lor, 1) := by decide +kernel
theorem d_Ar_joinLongs_135 : decode b_Ar_joinLongs 135 = .ok (.lreturn, 1) := by decide +kernel
theorem d_Ar_joinLongs_136 : decode b_Ar_joinLongs 136 = .ok (.lload_n 1, 1) := by decide +kernel
theorem d_Ar_joinLongs_137 : decode b_Ar_joinLongs 137 = .ok (.lload_n 3, 1) := by decide +kernel
theorem d_Ar_joinLongs_138 : decode b_Ar_joinLongs 138 = .ok (.lxor, 1) := by decide +kernel
theorem d_Ar_joinLongs_139 : decode b_Ar_joinLongs 139 = .ok (.lreturn, 1) := by decide +kernel
theorem d_Ar_joinLongs_140 : decode b_Ar_joinLongs 140 = .ok (.lload_n 1, 1) := by decide +kernel
theorem d_Ar_joinLongs_141 : decode b_Ar_joinLongs 141 = .ok (.lload_n 3, 1) := by decide +kernel
theorem d_Ar_joinLongs_142 : decode b_Ar_joinLongs 142 = .ok (.l2i, 1) := by decide +kernel
theorem d_Ar_joinLongs_143 : decode b_Ar_joinLongs 143 = .ok (.lshl, 1) := by decide +kernel
theorem d_Ar_joinLongs_144 : decode b_Ar_joinLongs 144 = .ok (.lreturn, 1) := by decide +kernel
theorem d_Ar_joinLongs_145 : decode b_Ar_joinLongs 145 = .ok (.lload_n 1, 1) := by decide +kernel
theorem d_Ar_joinLongs_146 : decode b_Ar_joinLongs 146 = .ok (.lload_n 3, 1) := by decide +kernel
theorem d_Ar_joinLongs_147 : decode b_Ar_joinLongs 147 = .ok (.l2i, 1) := by decide +kernel
theorem d_Ar_joinLongs_148 : decode b_Ar_joinLongs 148 = .ok (.lshr, 1) := by decide +kernel
theorem d_Ar_joinLongs_149 : decode b_Ar_joinLongs 149 = .ok (.lreturn, 1) := by decide +kernel
theorem d_Ar_joinLongs_150 : decode b_Ar_joinLongs 150 = .ok (.lload_n 1, 1) := by decide +kernel
theorem d_Ar_joinLongs_151 : decode b_Ar_joinLongs 151 = .ok (.lload_n 3, 1) := by decide +kernel
theorem d_Ar_joinLongs_152 : decode b_Ar_joinLongs 152 = .ok (.l2i, 1) := by decide +kernel
theorem d_Ar_joinLongs_153 : decode b_Ar_joinLongs 153 = .ok (.lushr, 1) := by decide +kernel
theorem d_Ar_joinLongs_154 : decode b_Ar_joinLongs 154 = .ok (.lreturn, 1) := by decide +kernel
theorem d_Ar_joinLongs_155 : decode b_Ar_joinLongs 155 = .ok (.lload_n 1, 1) := by decide +kernel
theorem d_Ar_joinLongs_156 : decode b_Ar_joinLongs 156 = .ok (.lload_n 3, 1) := by decide +kernel
theorem d_Ar_joinLongs_157 : decode b_Ar_joinLongs 157 = .ok (.l2i, 1) := by decide +kernel
theorem d_Ar_joinLongs_158 : decode b_Ar_joinLongs 158 = .ok (.lshl, 1) := by decide +kernel
theorem d_Ar_joinLongs_159 : decode b_Ar_joinLongs 159 = .ok (.lload_n 1, 1) := by decide +kernel
theorem d_Ar_joinLongs_160 : decode b_Ar_joinLongs 160 = .ok (.lload_n 3, 1) := by decide +kernel
theorem d_Ar_joinLongs_161 : decode b_Ar_joinLongs 161 = .ok (.lneg, 1) := by decide +kernel
theorem d_Ar_joinLongs_162 : decode b_Ar_joinLongs 162 = .ok (.l2i, 1) := by decide +kernel
theorem d_Ar_joinLongs_163 : decode b_Ar_joinLongs 163 = .ok (.lushr, 1) := by decide +kernel
theorem d_Ar_joinLongs_164 : decode b_Ar_joinLongs 164 = .ok (.lor, 1) := by decide +kernel
theorem d_Ar_joinLongs_165 : decode b_Ar_joinLongs 165 = .ok (.lreturn, 1) := by decide +kernel
theorem d_Ar_joinLongs_166 : decode b_Ar_joinLongs 166 = .ok (.lload_n 1, 1) := by decide +kernel
theorem d_Ar_joinLongs_167 : decode b_Ar_joinLongs 167 = .ok (.lload_n 3, 1) := by decide +kernel
theorem d_Ar_joinLongs_168 : decode b_Ar_joinLongs 168 = .ok (.l2i, 1) := by decide +kernel
theorem d_Ar_joinLongs_169 : decode b_Ar_joinLongs 169 = .ok (.lushr, 1) := by decide +kernel
theorem d_Ar_joinLongs_170 : decode b_Ar_joinLongs 170 = .ok (.lload_n 1, 1) := by decide +kernel
theorem d_Ar_joinLongs_171 : decode b_Ar_joinLongs 171 = .ok (.lload_n 3, 1) := by decide +kernel
theorem d_Ar_joinLongs_172 : decode b_Ar_joinLongs 172 = .ok (.lneg, 1) := by decide +kernel
theorem d_Ar_joinLongs_173 : decode b_Ar_joinLongs 173 = .ok (.l2i, 1) := by decide +kernel
theorem d_Ar_joinLongs_174 : decode b_Ar_joinLongs 174 = .ok (.lshl, 1) := by decide +kernel
theorem d_Ar_joinLongs_175 : decode b_Ar_joinLongs 175 = .ok (.lor, 1) := by decide +kernel
theorem d_Ar_joinLongs_176 : decode b_Ar_joinLongs 176 = .ok (.lreturn, 1) := by decide +kernel
theorem m_1033 : Cond.code y_Ar_isBelow b_Ar_isBelow 4 (some .boolean) ∈ lw_good := lw_in (List.mem_append_right _ (List.mem_of_getElem? (i := 1033) (by decide +kernel))) (by decide +kernel)
theorem m_1031 : Cond.methodLink R_Ar 13 y_Ar_isBelow ∈ lw_good := lw_in (List.mem_append_right _ (List.mem_of_getElem? (i := 1031) (by decide +kernel))) (by decide +kernel)
theorem m_24 : Cond.initialized R_Ar ∈ lw_good := lw_in (List.mem_append_right _ (List.mem_of_getElem? (i := 24) (by decide +kernel))) (by decide +kernel)
theorem m_1032 : Cond.static y_Ar_isBelow ∈ lw_good := lw_in (List.mem_append_right _ (List.mem_of_getElem? (i := 1032) (by decide +kernel))) (by decide +kernel)
theorem m_1055 : Cond.constantLong R_Ar 19 (-1) ∈ lw_good := lw_in (List.mem_append_right _ (List.mem_of_getElem? (i := 1055) (by decide +kernel))) (by decide +kernel)
theorem m_1065 : Cond.code y_Ar_quotient b_Ar_quotient 6 (some .long) ∈ lw_good := lw_in (List.mem_append_right _ (List.mem_of_getElem? (i := 1065) (by decide +kernel))) (by decide +kernel)
theorem m_1063 : Cond.methodLink R_Ar 42 y_Ar_quotient ∈ lw_good := lw_in (List.mem_append_right _ (List.mem_of_getElem? (i := 1063) (by decide +kernel))) (by decide +kernel)
theorem m_1064 : Cond.static y_Ar_quotient ∈ lw_good := lw_in (List.mem_append_right _ (List.mem_of_getElem? (i := 1064) (by decide +kernel))) (by decide +kernel)
set_option maxHeartbeats 8000000 in
set_option maxRecDepth 100000 in
theorem c_Ar_quotient (l : Launch) (htr : l.stackTraces = false) (G : va_G) (cB cI cJ cZ : ClassId) (a : Int64) (b : Int64) (sz : Nat) : MetX l y_Ar_quotient (wx y_Ar_quotient b_Ar_quotient 6 (some .long)) { frames := 1, cells := 0, slots := 0, locals := 23 } (XP G classes (xtys cB cI cJ cZ) xE [.long a, .long b] [] sz) (XQ G classes (va_A [] sz) (fun o w1 => o = .returned (some (.long (fQuot a b))) ∧ w1 = [])) 0 0 (va_A [] sz) := by
  refine ex_ofW (cc := b_Ar_quotient) (maxL := 6) (ret := (some .long)) (by decide) rfl ?_
  intro p e s m args below meth c s₁ B hml hno hv
  obtain ⟨rfl, hsz, hP, hK, hD0, hE⟩ := hv
  have hx := B.exec
  have hb := B.bytes
  have hr := B.returns
  have hts : ∀ w ∈ lw_good, w.before _ s = true := fun w h => atoms_spec (ws := wx y_Ar_quotient b_Ar_quotient 6 (some .long)) B.pre w (List.mem_cons_of_mem _ h)
  have hown : s.vm.findClass R_Ar = some m.cls := findClass_of_methodNamed B.named
  have hlocks := B.notSynchronized
  have htr9 : e.platform.stackTraces = false := by rw [B.admits.platform]; exact htr
  subst hsz
  have hNS := xx_nostat hP
  have hD := hD0.self (sz := s.heap.size)
  generalize hAe : va_A [] s.heap.size = A at hD hE hNS ⊢
  have hA : ∀ q : Nat, s.heap.size ≤ q → A q := fun q h => by rw [← hAe]; exact Or.inr h
  have hS : va_S A s.heap s.heap [] := va_S.rf
  have hl := lv_entry ([.long a, .long b]) (n := 6) (Nat.le_of_ble_eq_true rfl)
  rw [lg_entry_eq]
  generalize (lg_sl ([.long a, .long b]) ++ List.replicate (6 - (lg_sl ([.long a, .long b])).length) Slot.unset).toArray = ls at hl ⊢
  have hl : lv_has ls 6 [(0, .long a), (2, .long b)] := hl
  refine lv_lload_n hx hb d_Ar_quotient_0 rfl (lv_at hl 1 rfl) ?_
  refine lv_lconst (v := 0) hx hb d_Ar_quotient_1 (by decide) ?_
  refine W.lcmp hx hb d_Ar_quotient_2 ?_
  refine lv_if_ne (tgt := 8) hx hb d_Ar_quotient_3 (by decide) (fun c_1 => ?_) (fun c_1 => ?_)
  · refine lv_lload_n hx hb d_Ar_quotient_8 rfl (lv_at hl 1 rfl) ?_
    refine lv_lconst (v := 0) hx hb d_Ar_quotient_9 (by decide) ?_
    refine W.lcmp hx hb d_Ar_quotient_10 ?_
    refine lv_if_ge (tgt := 28) hx hb d_Ar_quotient_11 (by decide) (fun c_2 => ?_) (fun c_2 => ?_)
    · refine lv_lload_n hx hb d_Ar_quotient_28 rfl (lv_at hl 0 rfl) ?_
      refine lv_iconst (v := 1) hx hb d_Ar_quotient_29 (by decide) ?_
      refine lv_lushr hx hb d_Ar_quotient_30 rfl ?_
      refine lv_lload_n hx hb d_Ar_quotient_31 rfl (lv_at hl 1 rfl) ?_
      refine lv_ldiv hx hb d_Ar_quotient_32 (fun q => c_1 (ar_cmp q)) ?_
      refine lv_iconst (v := 1) hx hb d_Ar_quotient_33 (by decide) ?_
      refine lv_lshl hx hb d_Ar_quotient_34 rfl ?_
      refine lv_topl (fun y_3 e_4 => ?_)
      obtain rfl : y_3 = fNear a b := e_4
      refine lv_lstore (lv' := [(4, .long (fNear a b)), (0, .long a), (2, .long b)]) hx hb d_Ar_quotient_35 hl (by decide) rfl (fun ls hl => ?_)
      refine lv_lload_n hx hb d_Ar_quotient_37 rfl (lv_at hl 1 rfl) ?_
      refine lv_lload hx hb d_Ar_quotient_38 (lv_at hl 0 rfl) ?_
      refine lv_lload_n hx hb d_Ar_quotient_40 rfl (lv_at hl 2 rfl) ?_
      refine lv_lmul hx hb d_Ar_quotient_41 ?_
      refine lv_lsub hx hb d_Ar_quotient_42 ?_
      refine lv_lload_n hx hb d_Ar_quotient_43 rfl (lv_at hl 2 rfl) ?_
      refine xx_callS (wc := []) (wr := []) (As := [.long (a - ((fNear a b) * b)), .long b]) (rest := []) ⟨hx, hb, hml, hown, hts⟩ xE_st hK hE hA (c_Ar_isBelow l htr G cB cI cJ cZ (a - ((fNear a b) * b)) b _) (xw_S 2 hts m_1031 m_1032 m_24 m_1033 (by decide +kernel) ⟨(Nat.le_of_ble_eq_true rfl), (Nat.le_of_ble_eq_true rfl)⟩) hP hD hS [] [] rfl rfl (by decide) (by decide) (by decide) rfl hl.1 rfl (Nat.le_of_ble_eq_true rfl) d_Ar_quotient_44 ⟨(Nat.le_of_ble_eq_true rfl), (Nat.le_of_ble_eq_true rfl)⟩ (fun v9 w9 H locs hp hP hD hS => ?_) (fun x9 w9 H9 l9 hp _ _ _ => absurd hp (by rintro ⟨ho, -⟩; cases ho))
      obtain ⟨ho, rfl⟩ := hp
      cases ho
      have hP : va_P G classes [] H := hP
      have hD : va_D A [] := hD
      refine lv_if_eq (tgt := 55) hx hb d_Ar_quotient_47 (by decide) (fun c_5 => ?_) (fun c_5 => ?_)
      · refine lv_lload hx hb d_Ar_quotient_55 (lv_at hl 0 rfl) ?_
        refine lv_lconst (v := 1) hx hb d_Ar_quotient_57 (by decide) ?_
        refine lv_ladd hx hb d_Ar_quotient_58 ?_
        exact ex_W (fun _ h => ex_mq h) (W.lret (v := (fNear a b) + 1) hx hb hr (fun t ht hW => ⟨⟨_, ⟨congrArg (fun z => Outcome.returned (some (Value.long z))) (by simp [fQuot, c_1, c_2, c_5]), rfl⟩, by rw [ht]; exact hP, hD⟩, hS.F ht⟩) hS.2.2 d_Ar_quotient_59)
      · refine lv_lload hx hb d_Ar_quotient_50 (lv_at hl 0 rfl) ?_
        refine lv_goto (tgt := 59) hx hb d_Ar_quotient_52 (by decide) ?_
        exact ex_W (fun _ h => ex_mq h) (W.lret (v := fNear a b) hx hb hr (fun t ht hW => ⟨⟨_, ⟨congrArg (fun z => Outcome.returned (some (Value.long z))) (by simp [fQuot, c_1, c_2, c_5]), rfl⟩, by rw [ht]; exact hP, hD⟩, hS.F ht⟩) hS.2.2 d_Ar_quotient_59)
    · refine lv_lload_n hx hb d_Ar_quotient_14 rfl (lv_at hl 0 rfl) ?_
      refine lv_lload_n hx hb d_Ar_quotient_15 rfl (lv_at hl 1 rfl) ?_
      refine xx_callS (wc := []) (wr := []) (As := [.long a, .long b]) (rest := []) ⟨hx, hb, hml, hown, hts⟩ xE_st hK hE hA (c_Ar_isBelow l htr G cB cI cJ cZ a b _) (xw_S 2 hts m_1031 m_1032 m_24 m_1033 (by decide +kernel) ⟨(Nat.le_of_ble_eq_true rfl), (Nat.le_of_ble_eq_true rfl)⟩) hP hD hS [] [] rfl rfl (by decide) (by decide) (by decide) rfl hl.1 rfl (Nat.le_of_ble_eq_true rfl) d_Ar_quotient_16 ⟨(Nat.le_of_ble_eq_true rfl), (Nat.le_of_ble_eq_true rfl)⟩ (fun v9 w9 H locs hp hP hD hS => ?_) (fun x9 w9 H9 l9 hp _ _ _ => absurd hp (by rintro ⟨ho, -⟩; cases ho))
      obtain ⟨ho, rfl⟩ := hp
      cases ho
      have hP : va_P G classes [] H := hP
      have hD : va_D A [] := hD
      refine lv_if_eq (tgt := 26) hx hb d_Ar_quotient_19 (by decide) (fun c_6 => ?_) (fun c_6 => ?_)
      · refine lv_lconst (v := 1) hx hb d_Ar_quotient_26 (by decide) ?_
        exact ex_W (fun _ h => ex_mq h) (W.lret (v := 1) hx hb hr (fun t ht hW => ⟨⟨_, ⟨congrArg (fun z => Outcome.returned (some (Value.long z))) (by simp [fQuot, c_1, c_2, c_6]), rfl⟩, by rw [ht]; exact hP, hD⟩, hS.F ht⟩) hS.2.2 d_Ar_quotient_27)
      · refine lv_lconst (v := 0) hx hb d_Ar_quotient_22 (by decide) ?_
        refine lv_goto (tgt := 27) hx hb d_Ar_quotient_23 (by decide) ?_
        exact ex_W (fun _ h => ex_mq h) (W.lret (v := 0) hx hb hr (fun t ht hW => ⟨⟨_, ⟨congrArg (fun z => Outcome.returned (some (Value.long z))) (by simp [fQuot, c_1, c_2, c_6]), rfl⟩, by rw [ht]; exact hP, hD⟩, hS.F ht⟩) hS.2.2 d_Ar_quotient_27)
  · refine lv_lconst (v := 0) hx hb d_Ar_quotient_6 (by decide) ?_
    exact ex_W (fun _ h => ex_mq h) (W.lret (v := 0) hx hb hr (fun t ht hW => ⟨⟨_, ⟨congrArg (fun z => Outcome.returned (some (Value.long z))) (by simp [fQuot, c_1]), rfl⟩, by rw [ht]; exact hP, hD⟩, hS.F ht⟩) hS.2.2 d_Ar_quotient_7)
set_option maxHeartbeats 8000000 in
set_option maxRecDepth 100000 in
theorem c_Ar_reasonAgainst (l : Launch) (htr : l.stackTraces = false) (G : va_G) (cB cI cJ cZ : ClassId) (op : Int32) (a : Int64) (b : Int64) (least : Int64) (sz : Nat) : MetX l y_Ar_reasonAgainst (wx y_Ar_reasonAgainst b_Ar_reasonAgainst 7 (some .int)) { frames := 0, cells := 0, slots := 0, locals := 0 } (XP G classes (xtys cB cI cJ cZ) xE [.int op, .long a, .long b, .long least] [] sz) (XQ G classes (va_A [] sz) (fun o w1 => o = .returned (some (.int (fReason op a b least))) ∧ w1 = [])) 0 0 (va_A [] sz) := by
  refine ex_ofW (cc := b_Ar_reasonAgainst) (maxL := 7) (ret := (some .int)) (by decide) rfl ?_
  intro p e s m args below meth c s₁ B hml hno hv
  obtain ⟨rfl, hsz, hP, hK, hD0, hE⟩ := hv
  have hx := B.exec
  have hb := B.bytes
  have hr := B.returns
  have hts : ∀ w ∈ lw_good, w.before _ s = true := fun w h => atoms_spec (ws := wx y_Ar_reasonAgainst b_Ar_reasonAgainst 7 (some .int)) B.pre w (List.mem_cons_of_mem _ h)
  have hown : s.vm.findClass R_Ar = some m.cls := findClass_of_methodNamed B.named
  have hlocks := B.notSynchronized
  have htr9 : e.platform.stackTraces = false := by rw [B.admits.platform]; exact htr
  subst hsz
  have hNS := xx_nostat hP
  have hD := hD0.self (sz := s.heap.size)
  generalize hAe : va_A [] s.heap.size = A at hD hE hNS ⊢
  have hA : ∀ q : Nat, s.heap.size ≤ q → A q := fun q h => by rw [← hAe]; exact Or.inr h
  have hS : va_S A s.heap s.heap [] := va_S.rf
  have hl := lv_entry ([.int op, .long a, .long b, .long least]) (n := 7) (Nat.le_of_ble_eq_true rfl)
  rw [lg_entry_eq]
  generalize (lg_sl ([.int op, .long a, .long b, .long least]) ++ List.replicate (7 - (lg_sl ([.int op, .long a, .long b, .long least])).length) Slot.unset).toArray = ls at hl ⊢
  have hl : lv_has ls 7 [(0, .int op), (1, .long a), (3, .long b), (5, .long least)] := hl
  refine lv_iload_n hx hb d_Ar_reasonAgainst_0 rfl (lv_at hl 0 rfl) ?_
  refine lv_bipush (v := 109) hx hb d_Ar_reasonAgainst_1 (by decide) ?_
  refine lv_icmp_lt (tgt := 12) hx hb d_Ar_reasonAgainst_3 (by decide) (fun c_1 => ?_) (fun c_1 => ?_)
  · refine lv_iconst (v := 0) hx hb d_Ar_reasonAgainst_12 (by decide) ?_
    exact ex_W (fun _ h => ex_mq h) (W.iret (v := 0) hx hb hr (fun t ht hW => ⟨⟨_, ⟨congrArg (fun z => Outcome.returned (some (Value.int z))) (by simp [fReason, c_1]), rfl⟩, by rw [ht]; exact hP, hD⟩, hS.F ht⟩) hS.2.2 d_Ar_reasonAgainst_13)
  · refine lv_iload_n hx hb d_Ar_reasonAgainst_6 rfl (lv_at hl 0 rfl) ?_
    refine lv_bipush (v := 112) hx hb d_Ar_reasonAgainst_7 (by decide) ?_
    refine lv_icmp_le (tgt := 14) hx hb d_Ar_reasonAgainst_9 (by decide) (fun c_2 => ?_) (fun c_2 => ?_)
    · refine lv_lload_n hx hb d_Ar_reasonAgainst_14 rfl (lv_at hl 2 rfl) ?_
      refine lv_lconst (v := 0) hx hb d_Ar_reasonAgainst_15 (by decide) ?_
      refine W.lcmp hx hb d_Ar_reasonAgainst_16 ?_
      refine lv_if_ne (tgt := 22) hx hb d_Ar_reasonAgainst_17 (by decide) (fun c_3 => ?_) (fun c_3 => ?_)
      · refine lv_iload_n hx hb d_Ar_reasonAgainst_22 rfl (lv_at hl 0 rfl) ?_
        refine lv_bipush (v := 109) hx hb d_Ar_reasonAgainst_23 (by decide) ?_
        refine lv_icmp_ne (tgt := 47) hx hb d_Ar_reasonAgainst_25 (by decide) (fun c_4 => ?_) (fun c_4 => ?_)
        · refine lv_iconst (v := 0) hx hb d_Ar_reasonAgainst_47 (by decide) ?_
          exact ex_W (fun _ h => ex_mq h) (W.iret (v := 0) hx hb hr (fun t ht hW => ⟨⟨_, ⟨congrArg (fun z => Outcome.returned (some (Value.int z))) (by simp [fReason, c_1, c_2, c_3, c_4]), rfl⟩, by rw [ht]; exact hP, hD⟩, hS.F ht⟩) hS.2.2 d_Ar_reasonAgainst_48)
        · refine lv_lload_n hx hb d_Ar_reasonAgainst_28 rfl (lv_at hl 1 rfl) ?_
          refine lv_lload hx hb d_Ar_reasonAgainst_29 (lv_at hl 3 rfl) ?_
          refine W.lcmp hx hb d_Ar_reasonAgainst_31 ?_
          refine lv_if_ne (tgt := 47) hx hb d_Ar_reasonAgainst_32 (by decide) (fun c_5 => ?_) (fun c_5 => ?_)
          · refine lv_iconst (v := 0) hx hb d_Ar_reasonAgainst_47 (by decide) ?_
            exact ex_W (fun _ h => ex_mq h) (W.iret (v := 0) hx hb hr (fun t ht hW => ⟨⟨_, ⟨congrArg (fun z => Outcome.returned (some (Value.int z))) (by simp [fReason, c_1, c_2, c_3, c_4, c_5]), rfl⟩, by rw [ht]; exact hP, hD⟩, hS.F ht⟩) hS.2.2 d_Ar_reasonAgainst_48)
          · refine lv_lload_n hx hb d_Ar_reasonAgainst_35 rfl (lv_at hl 2 rfl) ?_
            refine lv_ldc2 (v := (-1)) hx hb hown (hts _ m_1055) d_Ar_reasonAgainst_36 ?_
            refine W.lcmp hx hb d_Ar_reasonAgainst_39 ?_
            refine lv_if_ne (tgt := 47) hx hb d_Ar_reasonAgainst_40 (by decide) (fun c_6 => ?_) (fun c_6 => ?_)
            · refine lv_iconst (v := 0) hx hb d_Ar_reasonAgainst_47 (by decide) ?_
              exact ex_W (fun _ h => ex_mq h) (W.iret (v := 0) hx hb hr (fun t ht hW => ⟨⟨_, ⟨congrArg (fun z => Outcome.returned (some (Value.int z))) (by simp [fReason, c_1, c_2, c_3, c_4, c_5, c_6]), rfl⟩, by rw [ht]; exact hP, hD⟩, hS.F ht⟩) hS.2.2 d_Ar_reasonAgainst_48)
            · refine lv_iconst (v := 5) hx hb d_Ar_reasonAgainst_43 (by decide) ?_
              refine lv_goto (tgt := 48) hx hb d_Ar_reasonAgainst_44 (by decide) ?_
              exact ex_W (fun _ h => ex_mq h) (W.iret (v := 5) hx hb hr (fun t ht hW => ⟨⟨_, ⟨congrArg (fun z => Outcome.returned (some (Value.int z))) (by simp [fReason, c_1, c_2, c_3, c_4, c_5, c_6]), rfl⟩, by rw [ht]; exact hP, hD⟩, hS.F ht⟩) hS.2.2 d_Ar_reasonAgainst_48)
      · refine lv_iconst (v := 4) hx hb d_Ar_reasonAgainst_20 (by decide) ?_
        exact ex_W (fun _ h => ex_mq h) (W.iret (v := 4) hx hb hr (fun t ht hW => ⟨⟨_, ⟨congrArg (fun z => Outcome.returned (some (Value.int z))) (by simp [fReason, c_1, c_2, c_3]), rfl⟩, by rw [ht]; exact hP, hD⟩, hS.F ht⟩) hS.2.2 d_Ar_reasonAgainst_21)
    · refine lv_iconst (v := 0) hx hb d_Ar_reasonAgainst_12 (by decide) ?_
      exact ex_W (fun _ h => ex_mq h) (W.iret (v := 0) hx hb hr (fun t ht hW => ⟨⟨_, ⟨congrArg (fun z => Outcome.returned (some (Value.int z))) (by simp [fReason, c_1, c_2]), rfl⟩, by rw [ht]; exact hP, hD⟩, hS.F ht⟩) hS.2.2 d_Ar_reasonAgainst_13)
set_option maxHeartbeats 8000000 in
set_option maxRecDepth 100000 in
theorem c_Ar_compares_69 (l : Launch) (htr : l.stackTraces = false) (G : va_G) (cB cI cJ cZ : ClassId) (a : Int64) (b : Int64) (sz : Nat) : MetX l y_Ar_compares (wx y_Ar_compares b_Ar_compares 5 (some .boolean)) { frames := 0, cells := 0, slots := 0, locals := 0 } (XP G classes (xtys cB cI cJ cZ) xE [.int 69, .long a, .long b] [] sz) (XQ G classes (va_A [] sz) (fun o w1 => o = .returned (some (.int (fCmp 69 a b))) ∧ w1 = [])) 0 0 (va_A [] sz) := by
  refine ex_ofW (cc := b_Ar_compares) (maxL := 5) (ret := (some .boolean)) (by decide) rfl ?_
  intro p e s m args below meth c s₁ B hml hno hv
  obtain ⟨rfl, hsz, hP, hK, hD0, hE⟩ := hv
  have hx := B.exec
  have hb := B.bytes
  have hr := B.returns
  have hts : ∀ w ∈ lw_good, w.before _ s = true := fun w h => atoms_spec (ws := wx y_Ar_compares b_Ar_compares 5 (some .boolean)) B.pre w (List.mem_cons_of_mem _ h)
  have hown : s.vm.findClass R_Ar = some m.cls := findClass_of_methodNamed B.named
  have hlocks := B.notSynchronized
  have htr9 : e.platform.stackTraces = false := by rw [B.admits.platform]; exact htr
  subst hsz
  have hNS := xx_nostat hP
  have hD := hD0.self (sz := s.heap.size)
  generalize hAe : va_A [] s.heap.size = A at hD hE hNS ⊢
  have hA : ∀ q : Nat, s.heap.size ≤ q → A q := fun q h => by rw [← hAe]; exact Or.inr h
  have hS : va_S A s.heap s.heap [] := va_S.rf
  have hl := lv_entry ([.int 69, .long a, .long b]) (n := 5) (Nat.le_of_ble_eq_true rfl)
  rw [lg_entry_eq]
  generalize (lg_sl ([.int 69, .long a, .long b]) ++ List.replicate (5 - (lg_sl ([.int 69, .long a, .long b])).length) Slot.unset).toArray = ls at hl ⊢
  have hl : lv_has ls 5 [(0, .int 69), (1, .long a), (3, .long b)] := hl
  refine lv_iload_n hx hb d_Ar_compares_0 rfl (lv_at hl 0 rfl) ?_
  refine lv_tableIn (off := 55) (tgt := 56) hx hb d_Ar_compares_1 (by decide) (by decide) (by decide) (by decide) ?_
  refine lv_lload_n hx hb d_Ar_compares_56 rfl (lv_at hl 1 rfl) ?_
  refine lv_lload_n hx hb d_Ar_compares_57 rfl (lv_at hl 2 rfl) ?_
  refine W.lcmp hx hb d_Ar_compares_58 ?_
  refine lv_if_ne (tgt := 66) hx hb d_Ar_compares_59 (by decide) (fun c_1 => ?_) (fun c_1 => ?_)
  · refine lv_iconst (v := 0) hx hb d_Ar_compares_66 (by decide) ?_
    exact ex_W (fun _ h => ex_mq h) (W.zret (v := 0) hx hb hr (by first | rfl | (unfold fBelow; split <;> rfl)) (fun t ht hW => ⟨⟨_, ⟨congrArg (fun z => Outcome.returned (some (Value.int z))) (by simp [fCmp, c_1]), rfl⟩, by rw [ht]; exact hP, hD⟩, hS.F ht⟩) hS.2.2 d_Ar_compares_67)
  · refine lv_iconst (v := 1) hx hb d_Ar_compares_62 (by decide) ?_
    refine lv_goto (tgt := 67) hx hb d_Ar_compares_63 (by decide) ?_
    exact ex_W (fun _ h => ex_mq h) (W.zret (v := 1) hx hb hr (by first | rfl | (unfold fBelow; split <;> rfl)) (fun t ht hW => ⟨⟨_, ⟨congrArg (fun z => Outcome.returned (some (Value.int z))) (by simp [fCmp, c_1]), rfl⟩, by rw [ht]; exact hP, hD⟩, hS.F ht⟩) hS.2.2 d_Ar_compares_67)
set_option maxHeartbeats 8000000 in
set_option maxRecDepth 100000 in
theorem c_Ar_compares_70 (l : Launch) (htr : l.stackTraces = false) (G : va_G) (cB cI cJ cZ : ClassId) (a : Int64) (b : Int64) (sz : Nat) : MetX l y_Ar_compares (wx y_Ar_compares b_Ar_compares 5 (some .boolean)) { frames := 0, cells := 0, slots := 0, locals := 0 } (XP G classes (xtys cB cI cJ cZ) xE [.int 70, .long a, .long b] [] sz) (XQ G classes (va_A [] sz) (fun o w1 => o = .returned (some (.int (fCmp 70 a b))) ∧ w1 = [])) 0 0 (va_A [] sz) := by
  refine ex_ofW (cc := b_Ar_compares) (maxL := 5) (ret := (some .boolean)) (by decide) rfl ?_
  intro p e s m args below meth c s₁ B hml hno hv
  obtain ⟨rfl, hsz, hP, hK, hD0, hE⟩ := hv
  have hx := B.exec
  have hb := B.bytes
  have hr := B.returns
  have hts : ∀ w ∈ lw_good, w.before _ s = true := fun w h => atoms_spec (ws := wx y_Ar_compares b_Ar_compares 5 (some .boolean)) B.pre w (List.mem_cons_of_mem _ h)
  have hown : s.vm.findClass R_Ar = some m.cls := findClass_of_methodNamed B.named
  have hlocks := B.notSynchronized
  have htr9 : e.platform.stackTraces = false := by rw [B.admits.platform]; exact htr
  subst hsz
  have hNS := xx_nostat hP
  have hD := hD0.self (sz := s.heap.size)
  generalize hAe : va_A [] s.heap.size = A at hD hE hNS ⊢
  have hA : ∀ q : Nat, s.heap.size ≤ q → A q := fun q h => by rw [← hAe]; exact Or.inr h
  have hS : va_S A s.heap s.heap [] := va_S.rf
  have hl := lv_entry ([.int 70, .long a, .long b]) (n := 5) (Nat.le_of_ble_eq_true rfl)
  rw [lg_entry_eq]
  generalize (lg_sl ([.int 70, .long a, .long b]) ++ List.replicate (5 - (lg_sl ([.int 70, .long a, .long b])).length) Slot.unset).toArray = ls at hl ⊢
  have hl : lv_has ls 5 [(0, .int 70), (1, .long a), (3, .long b)] := hl
  refine lv_iload_n hx hb d_Ar_compares_0 rfl (lv_at hl 0 rfl) ?_
  refine lv_tableIn (off := 55) (tgt := 56) hx hb d_Ar_compares_1 (by decide) (by decide) (by decide) (by decide) ?_
  refine lv_lload_n hx hb d_Ar_compares_56 rfl (lv_at hl 1 rfl) ?_
  refine lv_lload_n hx hb d_Ar_compares_57 rfl (lv_at hl 2 rfl) ?_
  refine W.lcmp hx hb d_Ar_compares_58 ?_
  refine lv_if_ne (tgt := 66) hx hb d_Ar_compares_59 (by decide) (fun c_1 => ?_) (fun c_1 => ?_)
  · refine lv_iconst (v := 0) hx hb d_Ar_compares_66 (by decide) ?_
    exact ex_W (fun _ h => ex_mq h) (W.zret (v := 0) hx hb hr (by first | rfl | (unfold fBelow; split <;> rfl)) (fun t ht hW => ⟨⟨_, ⟨congrArg (fun z => Outcome.returned (some (Value.int z))) (by simp [fCmp, c_1]), rfl⟩, by rw [ht]; exact hP, hD⟩, hS.F ht⟩) hS.2.2 d_Ar_compares_67)
  · refine lv_iconst (v := 1) hx hb d_Ar_compares_62 (by decide) ?_
    refine lv_goto (tgt := 67) hx hb d_Ar_compares_63 (by decide) ?_
    exact ex_W (fun _ h => ex_mq h) (W.zret (v := 1) hx hb hr (by first | rfl | (unfold fBelow; split <;> rfl)) (fun t ht hW => ⟨⟨_, ⟨congrArg (fun z => Outcome.returned (some (Value.int z))) (by simp [fCmp, c_1]), rfl⟩, by rw [ht]; exact hP, hD⟩, hS.F ht⟩) hS.2.2 d_Ar_compares_67)
set_option maxHeartbeats 8000000 in
set_option maxRecDepth 100000 in
theorem c_Ar_compares_71 (l : Launch) (htr : l.stackTraces = false) (G : va_G) (cB cI cJ cZ : ClassId) (a : Int64) (b : Int64) (sz : Nat) : MetX l y_Ar_compares (wx y_Ar_compares b_Ar_compares 5 (some .boolean)) { frames := 0, cells := 0, slots := 0, locals := 0 } (XP G classes (xtys cB cI cJ cZ) xE [.int 71, .long a, .long b] [] sz) (XQ G classes (va_A [] sz) (fun o w1 => o = .returned (some (.int (fCmp 71 a b))) ∧ w1 = [])) 0 0 (va_A [] sz) := by
  refine ex_ofW (cc := b_Ar_compares) (maxL := 5) (ret := (some .boolean)) (by decide) rfl ?_
  intro p e s m args below meth c s₁ B hml hno hv
  obtain ⟨rfl, hsz, hP, hK, hD0, hE⟩ := hv
  have hx := B.exec
  have hb := B.bytes
  have hr := B.returns
  have hts : ∀ w ∈ lw_good, w.before _ s = true := fun w h => atoms_spec (ws := wx y_Ar_compares b_Ar_compares 5 (some .boolean)) B.pre w (List.mem_cons_of_mem _ h)
  have hown : s.vm.findClass R_Ar = some m.cls := findClass_of_methodNamed B.named
  have hlocks := B.notSynchronized
  have htr9 : e.platform.stackTraces = false := by rw [B.admits.platform]; exact htr
  subst hsz
  have hNS := xx_nostat hP
  have hD := hD0.self (sz := s.heap.size)
  generalize hAe : va_A [] s.heap.size = A at hD hE hNS ⊢
  have hA : ∀ q : Nat, s.heap.size ≤ q → A q := fun q h => by rw [← hAe]; exact Or.inr h
  have hS : va_S A s.heap s.heap [] := va_S.rf
  have hl := lv_entry ([.int 71, .long a, .long b]) (n := 5) (Nat.le_of_ble_eq_true rfl)
  rw [lg_entry_eq]
  generalize (lg_sl ([.int 71, .long a, .long b]) ++ List.replicate (5 - (lg_sl ([.int 71, .long a, .long b])).length) Slot.unset).toArray = ls at hl ⊢
  have hl : lv_has ls 5 [(0, .int 71), (1, .long a), (3, .long b)] := hl
  refine lv_iload_n hx hb d_Ar_compares_0 rfl (lv_at hl 0 rfl) ?_
  refine lv_tableIn (off := 67) (tgt := 68) hx hb d_Ar_compares_1 (by decide) (by decide) (by decide) (by decide) ?_
  refine lv_lload_n hx hb d_Ar_compares_68 rfl (lv_at hl 1 rfl) ?_
  refine lv_lload_n hx hb d_Ar_compares_69 rfl (lv_at hl 2 rfl) ?_
  refine W.lcmp hx hb d_Ar_compares_70 ?_
  refine lv_if_eq (tgt := 78) hx hb d_Ar_compares_71 (by decide) (fun c_1 => ?_) (fun c_1 => ?_)
  · refine lv_iconst (v := 0) hx hb d_Ar_compares_78 (by decide) ?_
    exact ex_W (fun _ h => ex_mq h) (W.zret (v := 0) hx hb hr (by first | rfl | (unfold fBelow; split <;> rfl)) (fun t ht hW => ⟨⟨_, ⟨congrArg (fun z => Outcome.returned (some (Value.int z))) (by simp [fCmp, c_1]), rfl⟩, by rw [ht]; exact hP, hD⟩, hS.F ht⟩) hS.2.2 d_Ar_compares_79)
  · refine lv_iconst (v := 1) hx hb d_Ar_compares_74 (by decide) ?_
    refine lv_goto (tgt := 79) hx hb d_Ar_compares_75 (by decide) ?_
    exact ex_W (fun _ h => ex_mq h) (W.zret (v := 1) hx hb hr (by first | rfl | (unfold fBelow; split <;> rfl)) (fun t ht hW => ⟨⟨_, ⟨congrArg (fun z => Outcome.returned (some (Value.int z))) (by simp [fCmp, c_1]), rfl⟩, by rw [ht]; exact hP, hD⟩, hS.F ht⟩) hS.2.2 d_Ar_compares_79)
set_option maxHeartbeats 8000000 in
set_option maxRecDepth 100000 in
theorem c_Ar_compares_72 (l : Launch) (htr : l.stackTraces = false) (G : va_G) (cB cI cJ cZ : ClassId) (a : Int64) (b : Int64) (sz : Nat) : MetX l y_Ar_compares (wx y_Ar_compares b_Ar_compares 5 (some .boolean)) { frames := 0, cells := 0, slots := 0, locals := 0 } (XP G classes (xtys cB cI cJ cZ) xE [.int 72, .long a, .long b] [] sz) (XQ G classes (va_A [] sz) (fun o w1 => o = .returned (some (.int (fCmp 72 a b))) ∧ w1 = [])) 0 0 (va_A [] sz) := by
  refine ex_ofW (cc := b_Ar_compares) (maxL := 5) (ret := (some .boolean)) (by decide) rfl ?_
  intro p e s m args below meth c s₁ B hml hno hv
  obtain ⟨rfl, hsz, hP, hK, hD0, hE⟩ := hv
  have hx := B.exec
  have hb := B.bytes
  have hr := B.returns
  have hts : ∀ w ∈ lw_good, w.before _ s = true := fun w h => atoms_spec (ws := wx y_Ar_compares b_Ar_compares 5 (some .boolean)) B.pre w (List.mem_cons_of_mem _ h)
  have hown : s.vm.findClass R_Ar = some m.cls := findClass_of_methodNamed B.named
  have hlocks := B.notSynchronized
  have htr9 : e.platform.stackTraces = false := by rw [B.admits.platform]; exact htr
  subst hsz
  have hNS := xx_nostat hP
  have hD := hD0.self (sz := s.heap.size)
  generalize hAe : va_A [] s.heap.size = A at hD hE hNS ⊢
  have hA : ∀ q : Nat, s.heap.size ≤ q → A q := fun q h => by rw [← hAe]; exact Or.inr h
  have hS : va_S A s.heap s.heap [] := va_S.rf
  have hl := lv_entry ([.int 72, .long a, .long b]) (n := 5) (Nat.le_of_ble_eq_true rfl)
  rw [lg_entry_eq]
  generalize (lg_sl ([.int 72, .long a, .long b]) ++ List.replicate (5 - (lg_sl ([.int 72, .long a, .long b])).length) Slot.unset).toArray = ls at hl ⊢
  have hl : lv_has ls 5 [(0, .int 72), (1, .long a), (3, .long b)] := hl
  refine lv_iload_n hx hb d_Ar_compares_0 rfl (lv_at hl 0 rfl) ?_
  refine lv_tableIn (off := 79) (tgt := 80) hx hb d_Ar_compares_1 (by decide) (by decide) (by decide) (by decide) ?_
  refine lv_lload_n hx hb d_Ar_compares_80 rfl (lv_at hl 1 rfl) ?_
  refine lv_lload_n hx hb d_Ar_compares_81 rfl (lv_at hl 2 rfl) ?_
  refine W.lcmp hx hb d_Ar_compares_82 ?_
  refine lv_if_ge (tgt := 90) hx hb d_Ar_compares_83 (by decide) (fun c_1 => ?_) (fun c_1 => ?_)
  · refine lv_iconst (v := 0) hx hb d_Ar_compares_90 (by decide) ?_
    exact ex_W (fun _ h => ex_mq h) (W.zret (v := 0) hx hb hr (by first | rfl | (unfold fBelow; split <;> rfl)) (fun t ht hW => ⟨⟨_, ⟨congrArg (fun z => Outcome.returned (some (Value.int z))) (by simp [fCmp, c_1]), rfl⟩, by rw [ht]; exact hP, hD⟩, hS.F ht⟩) hS.2.2 d_Ar_compares_91)
  · refine lv_iconst (v := 1) hx hb d_Ar_compares_86 (by decide) ?_
    refine lv_goto (tgt := 91) hx hb d_Ar_compares_87 (by decide) ?_
    exact ex_W (fun _ h => ex_mq h) (W.zret (v := 1) hx hb hr (by first | rfl | (unfold fBelow; split <;> rfl)) (fun t ht hW => ⟨⟨_, ⟨congrArg (fun z => Outcome.returned (some (Value.int z))) (by simp [fCmp, c_1]), rfl⟩, by rw [ht]; exact hP, hD⟩, hS.F ht⟩) hS.2.2 d_Ar_compares_91)
set_option maxHeartbeats 8000000 in
set_option maxRecDepth 100000 in
theorem c_Ar_compares_73 (l : Launch) (htr : l.stackTraces = false) (G : va_G) (cB cI cJ cZ : ClassId) (a : Int64) (b : Int64) (sz : Nat) : MetX l y_Ar_compares (wx y_Ar_compares b_Ar_compares 5 (some .boolean)) { frames := 1, cells := 0, slots := 0, locals := 23 } (XP G classes (xtys cB cI cJ cZ) xE [.int 73, .long a, .long b] [] sz) (XQ G classes (va_A [] sz) (fun o w1 => o = .returned (some (.int (fCmp 73 a b))) ∧ w1 = [])) 0 0 (va_A [] sz) := by
  refine ex_ofW (cc := b_Ar_compares) (maxL := 5) (ret := (some .boolean)) (by decide) rfl ?_
  intro p e s m args below meth c s₁ B hml hno hv
  obtain ⟨rfl, hsz, hP, hK, hD0, hE⟩ := hv
  have hx := B.exec
  have hb := B.bytes
  have hr := B.returns
  have hts : ∀ w ∈ lw_good, w.before _ s = true := fun w h => atoms_spec (ws := wx y_Ar_compares b_Ar_compares 5 (some .boolean)) B.pre w (List.mem_cons_of_mem _ h)
  have hown : s.vm.findClass R_Ar = some m.cls := findClass_of_methodNamed B.named
  have hlocks := B.notSynchronized
  have htr9 : e.platform.stackTraces = false := by rw [B.admits.platform]; exact htr
  subst hsz
  have hNS := xx_nostat hP
  have hD := hD0.self (sz := s.heap.size)
  generalize hAe : va_A [] s.heap.size = A at hD hE hNS ⊢
  have hA : ∀ q : Nat, s.heap.size ≤ q → A q := fun q h => by rw [← hAe]; exact Or.inr h
  have hS : va_S A s.heap s.heap [] := va_S.rf
  have hl := lv_entry ([.int 73, .long a, .long b]) (n := 5) (Nat.le_of_ble_eq_true rfl)
  rw [lg_entry_eq]
  generalize (lg_sl ([.int 73, .long a, .long b]) ++ List.replicate (5 - (lg_sl ([.int 73, .long a, .long b])).length) Slot.unset).toArray = ls at hl ⊢
  have hl : lv_has ls 5 [(0, .int 73), (1, .long a), (3, .long b)] := hl
  refine lv_iload_n hx hb d_Ar_compares_0 rfl (lv_at hl 0 rfl) ?_
  refine lv_tableIn (off := 91) (tgt := 92) hx hb d_Ar_compares_1 (by decide) (by decide) (by decide) (by decide) ?_
  refine lv_lload_n hx hb d_Ar_compares_92 rfl (lv_at hl 1 rfl) ?_
  refine lv_lload_n hx hb d_Ar_compares_93 rfl (lv_at hl 2 rfl) ?_
  refine xx_callS (wc := []) (wr := []) (As := [.long a, .long b]) (rest := []) ⟨hx, hb, hml, hown, hts⟩ xE_st hK hE hA (c_Ar_isBelow l htr G cB cI cJ cZ a b _) (xw_S 2 hts m_1031 m_1032 m_24 m_1033 (by decide +kernel) ⟨(Nat.le_of_ble_eq_true rfl), (Nat.le_of_ble_eq_true rfl)⟩) hP hD hS [] [] rfl rfl (by decide) (by decide) (by decide) rfl hl.1 rfl (Nat.le_of_ble_eq_true rfl) d_Ar_compares_94 ⟨(Nat.le_of_ble_eq_true rfl), (Nat.le_of_ble_eq_true rfl)⟩ (fun v9 w9 H locs hp hP hD hS => ?_) (fun x9 w9 H9 l9 hp _ _ _ => absurd hp (by rintro ⟨ho, -⟩; cases ho))
  obtain ⟨ho, rfl⟩ := hp
  cases ho
  have hP : va_P G classes [] H := hP
  have hD : va_D A [] := hD
  exact ex_W (fun _ h => ex_mq h) (W.zret (v := fBelow a b) hx hb hr (by first | rfl | (unfold fBelow; split <;> rfl)) (fun t ht hW => ⟨⟨_, ⟨congrArg (fun z => Outcome.returned (some (Value.int z))) (by simp [fCmp]), rfl⟩, by rw [ht]; exact hP, hD⟩, hS.F ht⟩) hS.2.2 d_Ar_compares_97)
set_option maxHeartbeats 8000000 in
set_option maxRecDepth 100000 in
theorem c_Ar_compares_74 (l : Launch) (htr : l.stackTraces = false) (G : va_G) (cB cI cJ cZ : ClassId) (a : Int64) (b : Int64) (sz : Nat) : MetX l y_Ar_compares (wx y_Ar_compares b_Ar_compares 5 (some .boolean)) { frames := 0, cells := 0, slots := 0, locals := 0 } (XP G classes (xtys cB cI cJ cZ) xE [.int 74, .long a, .long b] [] sz) (XQ G classes (va_A [] sz) (fun o w1 => o = .returned (some (.int (fCmp 74 a b))) ∧ w1 = [])) 0 0 (va_A [] sz) := by
  refine ex_ofW (cc := b_Ar_compares) (maxL := 5) (ret := (some .boolean)) (by decide) rfl ?_
  intro p e s m args below meth c s₁ B hml hno hv
  obtain ⟨rfl, hsz, hP, hK, hD0, hE⟩ := hv
  have hx := B.exec
  have hb := B.bytes
  have hr := B.returns
  have hts : ∀ w ∈ lw_good, w.before _ s = true := fun w h => atoms_spec (ws := wx y_Ar_compares b_Ar_compares 5 (some .boolean)) B.pre w (List.mem_cons_of_mem _ h)
  have hown : s.vm.findClass R_Ar = some m.cls := findClass_of_methodNamed B.named
  have hlocks := B.notSynchronized
  have htr9 : e.platform.stackTraces = false := by rw [B.admits.platform]; exact htr
  subst hsz
  have hNS := xx_nostat hP
  have hD := hD0.self (sz := s.heap.size)
  generalize hAe : va_A [] s.heap.size = A at hD hE hNS ⊢
  have hA : ∀ q : Nat, s.heap.size ≤ q → A q := fun q h => by rw [← hAe]; exact Or.inr h
  have hS : va_S A s.heap s.heap [] := va_S.rf
  have hl := lv_entry ([.int 74, .long a, .long b]) (n := 5) (Nat.le_of_ble_eq_true rfl)
  rw [lg_entry_eq]
  generalize (lg_sl ([.int 74, .long a, .long b]) ++ List.replicate (5 - (lg_sl ([.int 74, .long a, .long b])).length) Slot.unset).toArray = ls at hl ⊢
  have hl : lv_has ls 5 [(0, .int 74), (1, .long a), (3, .long b)] := hl
  refine lv_iload_n hx hb d_Ar_compares_0 rfl (lv_at hl 0 rfl) ?_
  refine lv_tableIn (off := 97) (tgt := 98) hx hb d_Ar_compares_1 (by decide) (by decide) (by decide) (by decide) ?_
  refine lv_lload_n hx hb d_Ar_compares_98 rfl (lv_at hl 1 rfl) ?_
  refine lv_lload_n hx hb d_Ar_compares_99 rfl (lv_at hl 2 rfl) ?_
  refine W.lcmp hx hb d_Ar_compares_100 ?_
  refine lv_if_le (tgt := 108) hx hb d_Ar_compares_101 (by decide) (fun c_1 => ?_) (fun c_1 => ?_)
  · refine lv_iconst (v := 0) hx hb d_Ar_compares_108 (by decide) ?_
    exact ex_W (fun _ h => ex_mq h) (W.zret (v := 0) hx hb hr (by first | rfl | (unfold fBelow; split <;> rfl)) (fun t ht hW => ⟨⟨_, ⟨congrArg (fun z => Outcome.returned (some (Value.int z))) (by simp [fCmp, c_1]), rfl⟩, by rw [ht]; exact hP, hD⟩, hS.F ht⟩) hS.2.2 d_Ar_compares_109)
  · refine lv_iconst (v := 1) hx hb d_Ar_compares_104 (by decide) ?_
    refine lv_goto (tgt := 109) hx hb d_Ar_compares_105 (by decide) ?_
    exact ex_W (fun _ h => ex_mq h) (W.zret (v := 1) hx hb hr (by first | rfl | (unfold fBelow; split <;> rfl)) (fun t ht hW => ⟨⟨_, ⟨congrArg (fun z => Outcome.returned (some (Value.int z))) (by simp [fCmp, c_1]), rfl⟩, by rw [ht]; exact hP, hD⟩, hS.F ht⟩) hS.2.2 d_Ar_compares_109)
set_option maxHeartbeats 8000000 in
set_option maxRecDepth 100000 in
theorem c_Ar_compares_75 (l : Launch) (htr : l.stackTraces = false) (G : va_G) (cB cI cJ cZ : ClassId) (a : Int64) (b : Int64) (sz : Nat) : MetX l y_Ar_compares (wx y_Ar_compares b_Ar_compares 5 (some .boolean)) { frames := 1, cells := 0, slots := 0, locals := 23 } (XP G classes (xtys cB cI cJ cZ) xE [.int 75, .long a, .long b] [] sz) (XQ G classes (va_A [] sz) (fun o w1 => o = .returned (some (.int (fCmp 75 a b))) ∧ w1 = [])) 0 0 (va_A [] sz) := by
  refine ex_ofW (cc := b_Ar_compares) (maxL := 5) (ret := (some .boolean)) (by decide) rfl ?_
  intro p e s m args below meth c s₁ B hml hno hv
  obtain ⟨rfl, hsz, hP, hK, hD0, hE⟩ := hv
  have hx := B.exec
  have hb := B.bytes
  have hr := B.returns
  have hts : ∀ w ∈ lw_good, w.before _ s = true := fun w h => atoms_spec (ws := wx y_Ar_compares b_Ar_compares 5 (some .boolean)) B.pre w (List.mem_cons_of_mem _ h)
  have hown : s.vm.findClass R_Ar = some m.cls := findClass_of_methodNamed B.named
  have hlocks := B.notSynchronized
  have htr9 : e.platform.stackTraces = false := by rw [B.admits.platform]; exact htr
  subst hsz
  have hNS := xx_nostat hP
  have hD := hD0.self (sz := s.heap.size)
  generalize hAe : va_A [] s.heap.size = A at hD hE hNS ⊢
  have hA : ∀ q : Nat, s.heap.size ≤ q → A q := fun q h => by rw [← hAe]; exact Or.inr h
  have hS : va_S A s.heap s.heap [] := va_S.rf
  have hl := lv_entry ([.int 75, .long a, .long b]) (n := 5) (Nat.le_of_ble_eq_true rfl)
  rw [lg_entry_eq]
  generalize (lg_sl ([.int 75, .long a, .long b]) ++ List.replicate (5 - (lg_sl ([.int 75, .long a, .long b])).length) Slot.unset).toArray = ls at hl ⊢
  have hl : lv_has ls 5 [(0, .int 75), (1, .long a), (3, .long b)] := hl
  refine lv_iload_n hx hb d_Ar_compares_0 rfl (lv_at hl 0 rfl) ?_
  refine lv_tableIn (off := 109) (tgt := 110) hx hb d_Ar_compares_1 (by decide) (by decide) (by decide) (by decide) ?_
  refine lv_lload_n hx hb d_Ar_compares_110 rfl (lv_at hl 2 rfl) ?_
  refine lv_lload_n hx hb d_Ar_compares_111 rfl (lv_at hl 1 rfl) ?_
  refine xx_callS (wc := []) (wr := []) (As := [.long b, .long a]) (rest := []) ⟨hx, hb, hml, hown, hts⟩ xE_st hK hE hA (c_Ar_isBelow l htr G cB cI cJ cZ b a _) (xw_S 2 hts m_1031 m_1032 m_24 m_1033 (by decide +kernel) ⟨(Nat.le_of_ble_eq_true rfl), (Nat.le_of_ble_eq_true rfl)⟩) hP hD hS [] [] rfl rfl (by decide) (by decide) (by decide) rfl hl.1 rfl (Nat.le_of_ble_eq_true rfl) d_Ar_compares_112 ⟨(Nat.le_of_ble_eq_true rfl), (Nat.le_of_ble_eq_true rfl)⟩ (fun v9 w9 H locs hp hP hD hS => ?_) (fun x9 w9 H9 l9 hp _ _ _ => absurd hp (by rintro ⟨ho, -⟩; cases ho))
  obtain ⟨ho, rfl⟩ := hp
  cases ho
  have hP : va_P G classes [] H := hP
  have hD : va_D A [] := hD
  exact ex_W (fun _ h => ex_mq h) (W.zret (v := fBelow b a) hx hb hr (by first | rfl | (unfold fBelow; split <;> rfl)) (fun t ht hW => ⟨⟨_, ⟨congrArg (fun z => Outcome.returned (some (Value.int z))) (by simp [fCmp]), rfl⟩, by rw [ht]; exact hP, hD⟩, hS.F ht⟩) hS.2.2 d_Ar_compares_115)
set_option maxHeartbeats 8000000 in
set_option maxRecDepth 100000 in
theorem c_Ar_compares_76 (l : Launch) (htr : l.stackTraces = false) (G : va_G) (cB cI cJ cZ : ClassId) (a : Int64) (b : Int64) (sz : Nat) : MetX l y_Ar_compares (wx y_Ar_compares b_Ar_compares 5 (some .boolean)) { frames := 0, cells := 0, slots := 0, locals := 0 } (XP G classes (xtys cB cI cJ cZ) xE [.int 76, .long a, .long b] [] sz) (XQ G classes (va_A [] sz) (fun o w1 => o = .returned (some (.int (fCmp 76 a b))) ∧ w1 = [])) 0 0 (va_A [] sz) := by
  refine ex_ofW (cc := b_Ar_compares) (maxL := 5) (ret := (some .boolean)) (by decide) rfl ?_
  intro p e s m args below meth c s₁ B hml hno hv
  obtain ⟨rfl, hsz, hP, hK, hD0, hE⟩ := hv
  have hx := B.exec
  have hb := B.bytes
  have hr := B.returns
  have hts : ∀ w ∈ lw_good, w.before _ s = true := fun w h => atoms_spec (ws := wx y_Ar_compares b_Ar_compares 5 (some .boolean)) B.pre w (List.mem_cons_of_mem _ h)
  have hown : s.vm.findClass R_Ar = some m.cls := findClass_of_methodNamed B.named
  have hlocks := B.notSynchronized
  have htr9 : e.platform.stackTraces = false := by rw [B.admits.platform]; exact htr
  subst hsz
  have hNS := xx_nostat hP
  have hD := hD0.self (sz := s.heap.size)
  generalize hAe : va_A [] s.heap.size = A at hD hE hNS ⊢
  have hA : ∀ q : Nat, s.heap.size ≤ q → A q := fun q h => by rw [← hAe]; exact Or.inr h
  have hS : va_S A s.heap s.heap [] := va_S.rf
  have hl := lv_entry ([.int 76, .long a, .long b]) (n := 5) (Nat.le_of_ble_eq_true rfl)
  rw [lg_entry_eq]
  generalize (lg_sl ([.int 76, .long a, .long b]) ++ List.replicate (5 - (lg_sl ([.int 76, .long a, .long b])).length) Slot.unset).toArray = ls at hl ⊢
  have hl : lv_has ls 5 [(0, .int 76), (1, .long a), (3, .long b)] := hl
  refine lv_iload_n hx hb d_Ar_compares_0 rfl (lv_at hl 0 rfl) ?_
  refine lv_tableIn (off := 115) (tgt := 116) hx hb d_Ar_compares_1 (by decide) (by decide) (by decide) (by decide) ?_
  refine lv_lload_n hx hb d_Ar_compares_116 rfl (lv_at hl 1 rfl) ?_
  refine lv_lload_n hx hb d_Ar_compares_117 rfl (lv_at hl 2 rfl) ?_
  refine W.lcmp hx hb d_Ar_compares_118 ?_
  refine lv_if_gt (tgt := 126) hx hb d_Ar_compares_119 (by decide) (fun c_1 => ?_) (fun c_1 => ?_)
  · refine lv_iconst (v := 0) hx hb d_Ar_compares_126 (by decide) ?_
    exact ex_W (fun _ h => ex_mq h) (W.zret (v := 0) hx hb hr (by first | rfl | (unfold fBelow; split <;> rfl)) (fun t ht hW => ⟨⟨_, ⟨congrArg (fun z => Outcome.returned (some (Value.int z))) (by simp [fCmp, c_1]), rfl⟩, by rw [ht]; exact hP, hD⟩, hS.F ht⟩) hS.2.2 d_Ar_compares_127)
  · refine lv_iconst (v := 1) hx hb d_Ar_compares_122 (by decide) ?_
    refine lv_goto (tgt := 127) hx hb d_Ar_compares_123 (by decide) ?_
    exact ex_W (fun _ h => ex_mq h) (W.zret (v := 1) hx hb hr (by first | rfl | (unfold fBelow; split <;> rfl)) (fun t ht hW => ⟨⟨_, ⟨congrArg (fun z => Outcome.returned (some (Value.int z))) (by simp [fCmp, c_1]), rfl⟩, by rw [ht]; exact hP, hD⟩, hS.F ht⟩) hS.2.2 d_Ar_compares_127)
set_option maxHeartbeats 8000000 in
set_option maxRecDepth 100000 in
theorem c_Ar_compares_77 (l : Launch) (htr : l.stackTraces = false) (G : va_G) (cB cI cJ cZ : ClassId) (a : Int64) (b : Int64) (sz : Nat) : MetX l y_Ar_compares (wx y_Ar_compares b_Ar_compares 5 (some .boolean)) { frames := 1, cells := 0, slots := 0, locals := 23 } (XP G classes (xtys cB cI cJ cZ) xE [.int 77, .long a, .long b] [] sz) (XQ G classes (va_A [] sz) (fun o w1 => o = .returned (some (.int (fCmp 77 a b))) ∧ w1 = [])) 0 0 (va_A [] sz) := by
  refine ex_ofW (cc := b_Ar_compares) (maxL := 5) (ret := (some .boolean)) (by decide) rfl ?_
  intro p e s m args below meth c s₁ B hml hno hv
  obtain ⟨rfl, hsz, hP, hK, hD0, hE⟩ := hv
  have hx := B.exec
  have hb := B.bytes
  have hr := B.returns
  have hts : ∀ w ∈ lw_good, w.before _ s = true := fun w h => atoms_spec (ws := wx y_Ar_compares b_Ar_compares 5 (some .boolean)) B.pre w (List.mem_cons_of_mem _ h)
  have hown : s.vm.findClass R_Ar = some m.cls := findClass_of_methodNamed B.named
  have hlocks := B.notSynchronized
  have htr9 : e.platform.stackTraces = false := by rw [B.admits.platform]; exact htr
  subst hsz
  have hNS := xx_nostat hP
  have hD := hD0.self (sz := s.heap.size)
  generalize hAe : va_A [] s.heap.size = A at hD hE hNS ⊢
  have hA : ∀ q : Nat, s.heap.size ≤ q → A q := fun q h => by rw [← hAe]; exact Or.inr h
  have hS : va_S A s.heap s.heap [] := va_S.rf
  have hl := lv_entry ([.int 77, .long a, .long b]) (n := 5) (Nat.le_of_ble_eq_true rfl)
  rw [lg_entry_eq]
  generalize (lg_sl ([.int 77, .long a, .long b]) ++ List.replicate (5 - (lg_sl ([.int 77, .long a, .long b])).length) Slot.unset).toArray = ls at hl ⊢
  have hl : lv_has ls 5 [(0, .int 77), (1, .long a), (3, .long b)] := hl
  refine lv_iload_n hx hb d_Ar_compares_0 rfl (lv_at hl 0 rfl) ?_
  refine lv_tableIn (off := 127) (tgt := 128) hx hb d_Ar_compares_1 (by decide) (by decide) (by decide) (by decide) ?_
  refine lv_lload_n hx hb d_Ar_compares_128 rfl (lv_at hl 2 rfl) ?_
  refine lv_lload_n hx hb d_Ar_compares_129 rfl (lv_at hl 1 rfl) ?_
  refine xx_callS (wc := []) (wr := []) (As := [.long b, .long a]) (rest := []) ⟨hx, hb, hml, hown, hts⟩ xE_st hK hE hA (c_Ar_isBelow l htr G cB cI cJ cZ b a _) (xw_S 2 hts m_1031 m_1032 m_24 m_1033 (by decide +kernel) ⟨(Nat.le_of_ble_eq_true rfl), (Nat.le_of_ble_eq_true rfl)⟩) hP hD hS [] [] rfl rfl (by decide) (by decide) (by decide) rfl hl.1 rfl (Nat.le_of_ble_eq_true rfl) d_Ar_compares_130 ⟨(Nat.le_of_ble_eq_true rfl), (Nat.le_of_ble_eq_true rfl)⟩ (fun v9 w9 H locs hp hP hD hS => ?_) (fun x9 w9 H9 l9 hp _ _ _ => absurd hp (by rintro ⟨ho, -⟩; cases ho))
  obtain ⟨ho, rfl⟩ := hp
  cases ho
  have hP : va_P G classes [] H := hP
  have hD : va_D A [] := hD
  refine lv_if_ne (tgt := 140) hx hb d_Ar_compares_133 (by decide) (fun c_1 => ?_) (fun c_1 => ?_)
  · refine lv_iconst (v := 0) hx hb d_Ar_compares_140 (by decide) ?_
    exact ex_W (fun _ h => ex_mq h) (W.zret (v := 0) hx hb hr (by first | rfl | (unfold fBelow; split <;> rfl)) (fun t ht hW => ⟨⟨_, ⟨congrArg (fun z => Outcome.returned (some (Value.int z))) (by simp [fCmp, c_1]), rfl⟩, by rw [ht]; exact hP, hD⟩, hS.F ht⟩) hS.2.2 d_Ar_compares_141)
  · refine lv_iconst (v := 1) hx hb d_Ar_compares_136 (by decide) ?_
    refine lv_goto (tgt := 141) hx hb d_Ar_compares_137 (by decide) ?_
    exact ex_W (fun _ h => ex_mq h) (W.zret (v := 1) hx hb hr (by first | rfl | (unfold fBelow; split <;> rfl)) (fun t ht hW => ⟨⟨_, ⟨congrArg (fun z => Outcome.returned (some (Value.int z))) (by simp [fCmp, c_1]), rfl⟩, by rw [ht]; exact hP, hD⟩, hS.F ht⟩) hS.2.2 d_Ar_compares_141)
set_option maxHeartbeats 8000000 in
set_option maxRecDepth 100000 in
theorem c_Ar_compares_78 (l : Launch) (htr : l.stackTraces = false) (G : va_G) (cB cI cJ cZ : ClassId) (a : Int64) (b : Int64) (sz : Nat) : MetX l y_Ar_compares (wx y_Ar_compares b_Ar_compares 5 (some .boolean)) { frames := 0, cells := 0, slots := 0, locals := 0 } (XP G classes (xtys cB cI cJ cZ) xE [.int 78, .long a, .long b] [] sz) (XQ G classes (va_A [] sz) (fun o w1 => o = .returned (some (.int (fCmp 78 a b))) ∧ w1 = [])) 0 0 (va_A [] sz) := by
  refine ex_ofW (cc := b_Ar_compares) (maxL := 5) (ret := (some .boolean)) (by decide) rfl ?_
  intro p e s m args below meth c s₁ B hml hno hv
  obtain ⟨rfl, hsz, hP, hK, hD0, hE⟩ := hv
  have hx := B.exec
  have hb := B.bytes
  have hr := B.returns
  have hts : ∀ w ∈ lw_good, w.before _ s = true := fun w h => atoms_spec (ws := wx y_Ar_compares b_Ar_compares 5 (some .boolean)) B.pre w (List.mem_cons_of_mem _ h)
  have hown : s.vm.findClass R_Ar = some m.cls := findClass_of_methodNamed B.named
  have hlocks := B.notSynchronized
  have htr9 : e.platform.stackTraces = false := by rw [B.admits.platform]; exact htr
  subst hsz
  have hNS := xx_nostat hP
  have hD := hD0.self (sz := s.heap.size)
  generalize hAe : va_A [] s.heap.size = A at hD hE hNS ⊢
  have hA : ∀ q : Nat, s.heap.size ≤ q → A q := fun q h => by rw [← hAe]; exact Or.inr h
  have hS : va_S A s.heap s.heap [] := va_S.rf
  have hl := lv_entry ([.int 78, .long a, .long b]) (n := 5) (Nat.le_of_ble_eq_true rfl)
  rw [lg_entry_eq]
  generalize (lg_sl ([.int 78, .long a, .long b]) ++ List.replicate (5 - (lg_sl ([.int 78, .long a, .long b])).length) Slot.unset).toArray = ls at hl ⊢
  have hl : lv_has ls 5 [(0, .int 78), (1, .long a), (3, .long b)] := hl
  refine lv_iload_n hx hb d_Ar_compares_0 rfl (lv_at hl 0 rfl) ?_
  refine lv_tableIn (off := 141) (tgt := 142) hx hb d_Ar_compares_1 (by decide) (by decide) (by decide) (by decide) ?_
  refine lv_lload_n hx hb d_Ar_compares_142 rfl (lv_at hl 1 rfl) ?_
  refine lv_lload_n hx hb d_Ar_compares_143 rfl (lv_at hl 2 rfl) ?_
  refine W.lcmp hx hb d_Ar_compares_144 ?_
  refine lv_if_lt (tgt := 152) hx hb d_Ar_compares_145 (by decide) (fun c_1 => ?_) (fun c_1 => ?_)
  · refine lv_iconst (v := 0) hx hb d_Ar_compares_152 (by decide) ?_
    exact ex_W (fun _ h => ex_mq h) (W.zret (v := 0) hx hb hr (by first | rfl | (unfold fBelow; split <;> rfl)) (fun t ht hW => ⟨⟨_, ⟨congrArg (fun z => Outcome.returned (some (Value.int z))) (by simp [fCmp, c_1]), rfl⟩, by rw [ht]; exact hP, hD⟩, hS.F ht⟩) hS.2.2 d_Ar_compares_153)
  · refine lv_iconst (v := 1) hx hb d_Ar_compares_148 (by decide) ?_
    refine lv_goto (tgt := 153) hx hb d_Ar_compares_149 (by decide) ?_
    exact ex_W (fun _ h => ex_mq h) (W.zret (v := 1) hx hb hr (by first | rfl | (unfold fBelow; split <;> rfl)) (fun t ht hW => ⟨⟨_, ⟨congrArg (fun z => Outcome.returned (some (Value.int z))) (by simp [fCmp, c_1]), rfl⟩, by rw [ht]; exact hP, hD⟩, hS.F ht⟩) hS.2.2 d_Ar_compares_153)
set_option maxHeartbeats 8000000 in
set_option maxRecDepth 100000 in
theorem c_Ar_compares_79 (l : Launch) (htr : l.stackTraces = false) (G : va_G) (cB cI cJ cZ : ClassId) (a : Int64) (b : Int64) (sz : Nat) : MetX l y_Ar_compares (wx y_Ar_compares b_Ar_compares 5 (some .boolean)) { frames := 1, cells := 0, slots := 0, locals := 23 } (XP G classes (xtys cB cI cJ cZ) xE [.int 79, .long a, .long b] [] sz) (XQ G classes (va_A [] sz) (fun o w1 => o = .returned (some (.int (fCmp 79 a b))) ∧ w1 = [])) 0 0 (va_A [] sz) := by
  refine ex_ofW (cc := b_Ar_compares) (maxL := 5) (ret := (some .boolean)) (by decide) rfl ?_
  intro p e s m args below meth c s₁ B hml hno hv
  obtain ⟨rfl, hsz, hP, hK, hD0, hE⟩ := hv
  have hx := B.exec
  have hb := B.bytes
  have hr := B.returns
  have hts : ∀ w ∈ lw_good, w.before _ s = true := fun w h => atoms_spec (ws := wx y_Ar_compares b_Ar_compares 5 (some .boolean)) B.pre w (List.mem_cons_of_mem _ h)
  have hown : s.vm.findClass R_Ar = some m.cls := findClass_of_methodNamed B.named
  have hlocks := B.notSynchronized
  have htr9 : e.platform.stackTraces = false := by rw [B.admits.platform]; exact htr
  subst hsz
  have hNS := xx_nostat hP
  have hD := hD0.self (sz := s.heap.size)
  generalize hAe : va_A [] s.heap.size = A at hD hE hNS ⊢
  have hA : ∀ q : Nat, s.heap.size ≤ q → A q := fun q h => by rw [← hAe]; exact Or.inr h
  have hS : va_S A s.heap s.heap [] := va_S.rf
  have hl := lv_entry ([.int 79, .long a, .long b]) (n := 5) (Nat.le_of_ble_eq_true rfl)
  rw [lg_entry_eq]
  generalize (lg_sl ([.int 79, .long a, .long b]) ++ List.replicate (5 - (lg_sl ([.int 79, .long a, .long b])).length) Slot.unset).toArray = ls at hl ⊢
  have hl : lv_has ls 5 [(0, .int 79), (1, .long a), (3, .long b)] := hl
  refine lv_iload_n hx hb d_Ar_compares_0 rfl (lv_at hl 0 rfl) ?_
  refine lv_tableOut (tgt := 154) hx hb d_Ar_compares_1 (by decide) (by decide) ?_
  refine lv_lload_n hx hb d_Ar_compares_154 rfl (lv_at hl 1 rfl) ?_
  refine lv_lload_n hx hb d_Ar_compares_155 rfl (lv_at hl 2 rfl) ?_
  refine xx_callS (wc := []) (wr := []) (As := [.long a, .long b]) (rest := []) ⟨hx, hb, hml, hown, hts⟩ xE_st hK hE hA (c_Ar_isBelow l htr G cB cI cJ cZ a b _) (xw_S 2 hts m_1031 m_1032 m_24 m_1033 (by decide +kernel) ⟨(Nat.le_of_ble_eq_true rfl), (Nat.le_of_ble_eq_true rfl)⟩) hP hD hS [] [] rfl rfl (by decide) (by decide) (by decide) rfl hl.1 rfl (Nat.le_of_ble_eq_true rfl) d_Ar_compares_156 ⟨(Nat.le_of_ble_eq_true rfl), (Nat.le_of_ble_eq_true rfl)⟩ (fun v9 w9 H locs hp hP hD hS => ?_) (fun x9 w9 H9 l9 hp _ _ _ => absurd hp (by rintro ⟨ho, -⟩; cases ho))
  obtain ⟨ho, rfl⟩ := hp
  cases ho
  have hP : va_P G classes [] H := hP
  have hD : va_D A [] := hD
  refine lv_if_ne (tgt := 166) hx hb d_Ar_compares_159 (by decide) (fun c_1 => ?_) (fun c_1 => ?_)
  · refine lv_iconst (v := 0) hx hb d_Ar_compares_166 (by decide) ?_
    exact ex_W (fun _ h => ex_mq h) (W.zret (v := 0) hx hb hr (by first | rfl | (unfold fBelow; split <;> rfl)) (fun t ht hW => ⟨⟨_, ⟨congrArg (fun z => Outcome.returned (some (Value.int z))) (by simp [fCmp, c_1]), rfl⟩, by rw [ht]; exact hP, hD⟩, hS.F ht⟩) hS.2.2 d_Ar_compares_167)
  · refine lv_iconst (v := 1) hx hb d_Ar_compares_162 (by decide) ?_
    refine lv_goto (tgt := 167) hx hb d_Ar_compares_163 (by decide) ?_
    exact ex_W (fun _ h => ex_mq h) (W.zret (v := 1) hx hb hr (by first | rfl | (unfold fBelow; split <;> rfl)) (fun t ht hW => ⟨⟨_, ⟨congrArg (fun z => Outcome.returned (some (Value.int z))) (by simp [fCmp, c_1]), rfl⟩, by rw [ht]; exact hP, hD⟩, hS.F ht⟩) hS.2.2 d_Ar_compares_167)
set_option maxHeartbeats 8000000 in
set_option maxRecDepth 100000 in
theorem c_Ar_joinLongs_106 (l : Launch) (htr : l.stackTraces = false) (G : va_G) (cB cI cJ cZ : ClassId) (a : Int64) (b : Int64) (sz : Nat) : MetX l y_Ar_joinLongs (wx y_Ar_joinLongs b_Ar_joinLongs 5 (some .long)) { frames := 0, cells := 0, slots := 0, locals := 0 } (XP G classes (xtys cB cI cJ cZ) xE [.int 106, .long a, .long b] [] sz) (XQ G classes (va_A [] sz) (fun o w1 => o = .returned (some (.long (fJoin 106 a b))) ∧ w1 = [])) 0 0 (va_A [] sz) := by
  refine ex_ofW (cc := b_Ar_joinLongs) (maxL := 5) (ret := (some .long)) (by decide) rfl ?_
  intro p e s m args below meth c s₁ B hml hno hv
  obtain ⟨rfl, hsz, hP, hK, hD0, hE⟩ := hv
  have hx := B.exec
  have hb := B.bytes
  have hr := B.returns
  have hts : ∀ w ∈ lw_good, w.before _ s = true := fun w h => atoms_spec (ws := wx y_Ar_joinLongs b_Ar_joinLongs 5 (some .long)) B.pre w (List.mem_cons_of_mem _ h)
  have hown : s.vm.findClass R_Ar = some m.cls := findClass_of_methodNamed B.named
  have hlocks := B.notSynchronized
  have htr9 : e.platform.stackTraces = false := by rw [B.admits.platform]; exact htr
  subst hsz
  have hNS := xx_nostat hP
  have hD := hD0.self (sz := s.heap.size)
  generalize hAe : va_A [] s.heap.size = A at hD hE hNS ⊢
  have hA : ∀ q : Nat, s.heap.size ≤ q → A q := fun q h => by rw [← hAe]; exact Or.inr h
  have hS : va_S A s.heap s.heap [] := va_S.rf
  have hl := lv_entry ([.int 106, .long a, .long b]) (n := 5) (Nat.le_of_ble_eq_true rfl)
  rw [lg_entry_eq]
  generalize (lg_sl ([.int 106, .long a, .long b]) ++ List.replicate (5 - (lg_sl ([.int 106, .long a, .long b])).length) Slot.unset).toArray = ls at hl ⊢
  have hl : lv_has ls 5 [(0, .int 106), (1, .long a), (3, .long b)] := hl
  refine lv_iload_n hx hb d_Ar_joinLongs_0 rfl (lv_at hl 0 rfl) ?_
  refine lv_tableIn (off := 71) (tgt := 72) hx hb d_Ar_joinLongs_1 (by decide) (by decide) (by decide) (by decide) ?_
  refine lv_lload_n hx hb d_Ar_joinLongs_72 rfl (lv_at hl 1 rfl) ?_
  refine lv_lload_n hx hb d_Ar_joinLongs_73 rfl (lv_at hl 2 rfl) ?_
  refine lv_ladd hx hb d_Ar_joinLongs_74 ?_
  exact ex_W (fun _ h => ex_mq h) (W.lret (v := a + b) hx hb hr (fun t ht hW => ⟨⟨_, ⟨congrArg (fun z => Outcome.returned (some (Value.long z))) (by simp [fJoin]), rfl⟩, by rw [ht]; exact hP, hD⟩, hS.F ht⟩) hS.2.2 d_Ar_joinLongs_75)
set_option maxHeartbeats 8000000 in
set_option maxRecDepth 100000 in
theorem c_Ar_joinLongs_107 (l : Launch) (htr : l.stackTraces = false) (G : va_G) (cB cI cJ cZ : ClassId) (a : Int64) (b : Int64) (sz : Nat) : MetX l y_Ar_joinLongs (wx y_Ar_joinLongs b_Ar_joinLongs 5 (some .long)) { frames := 0, cells := 0, slots := 0, locals := 0 } (XP G classes (xtys cB cI cJ cZ) xE [.int 107, .long a, .long b] [] sz) (XQ G classes (va_A [] sz) (fun o w1 => o = .returned (some (.long (fJoin 107 a b))) ∧ w1 = [])) 0 0 (va_A [] sz) := by
  refine ex_ofW (cc := b_Ar_joinLongs) (maxL := 5) (ret := (some .long)) (by decide) rfl ?_
  intro p e s m args below meth c s₁ B hml hno hv
  obtain ⟨rfl, hsz, hP, hK, hD0, hE⟩ := hv
  have hx := B.exec
  have hb := B.bytes
  have hr := B.returns
  have hts : ∀ w ∈ lw_good, w.before _ s = true := fun w h => atoms_spec (ws := wx y_Ar_joinLongs b_Ar_joinLongs 5 (some .long)) B.pre w (List.mem_cons_of_mem _ h)
  have hown : s.vm.findClass R_Ar = some m.cls := findClass_of_methodNamed B.named
  have hlocks := B.notSynchronized
  have htr9 : e.platform.stackTraces = false := by rw [B.admits.platform]; exact htr
  subst hsz
  have hNS := xx_nostat hP
  have hD := hD0.self (sz := s.heap.size)
  generalize hAe : va_A [] s.heap.size = A at hD hE hNS ⊢
  have hA : ∀ q : Nat, s.heap.size ≤ q → A q := fun q h => by rw [← hAe]; exact Or.inr h
  have hS : va_S A s.heap s.heap [] := va_S.rf
  have hl := lv_entry ([.int 107, .long a, .long b]) (n := 5) (Nat.le_of_ble_eq_true rfl)
  rw [lg_entry_eq]
  generalize (lg_sl ([.int 107, .long a, .long b]) ++ List.replicate (5 - (lg_sl ([.int 107, .long a, .long b])).length) Slot.unset).toArray = ls at hl ⊢
  have hl : lv_has ls 5 [(0, .int 107), (1, .long a), (3, .long b)] := hl
  refine lv_iload_n hx hb d_Ar_joinLongs_0 rfl (lv_at hl 0 rfl) ?_
  refine lv_tableIn (off := 75) (tgt := 76) hx hb d_Ar_joinLongs_1 (by decide) (by decide) (by decide) (by decide) ?_
  refine lv_lload_n hx hb d_Ar_joinLongs_76 rfl (lv_at hl 1 rfl) ?_
  refine lv_lload_n hx hb d_Ar_joinLongs_77 rfl (lv_at hl 2 rfl) ?_
  refine lv_lsub hx hb d_Ar_joinLongs_78 ?_
  exact ex_W (fun _ h => ex_mq h) (W.lret (v := a - b) hx hb hr (fun t ht hW => ⟨⟨_, ⟨congrArg (fun z => Outcome.returned (some (Value.long z))) (by simp [fJoin]), rfl⟩, by rw [ht]; exact hP, hD⟩, hS.F ht⟩) hS.2.2 d_Ar_joinLongs_79)
set_option maxHeartbeats 8000000 in
set_option maxRecDepth 100000 in
theorem c_Ar_joinLongs_108 (l : Launch) (htr : l.stackTraces = false) (G : va_G) (cB cI cJ cZ : ClassId) (a : Int64) (b : Int64) (sz : Nat) : MetX l y_Ar_joinLongs (wx y_Ar_joinLongs b_Ar_joinLongs 5 (some .long)) { frames := 0, cells := 0, slots := 0, locals := 0 } (XP G classes (xtys cB cI cJ cZ) xE [.int 108, .long a, .long b] [] sz) (XQ G classes (va_A [] sz) (fun o w1 => o = .returned (some (.long (fJoin 108 a b))) ∧ w1 = [])) 0 0 (va_A [] sz) := by
  refine ex_ofW (cc := b_Ar_joinLongs) (maxL := 5) (ret := (some .long)) (by decide) rfl ?_
  intro p e s m args below meth c s₁ B hml hno hv
  obtain ⟨rfl, hsz, hP, hK, hD0, hE⟩ := hv
  have hx := B.exec
  have hb := B.bytes
  have hr := B.returns
  have hts : ∀ w ∈ lw_good, w.before _ s = true := fun w h => atoms_spec (ws := wx y_Ar_joinLongs b_Ar_joinLongs 5 (some .long)) B.pre w (List.mem_cons_of_mem _ h)
  have hown : s.vm.findClass R_Ar = some m.cls := findClass_of_methodNamed B.named
  have hlocks := B.notSynchronized
  have htr9 : e.platform.stackTraces = false := by rw [B.admits.platform]; exact htr
  subst hsz
  have hNS := xx_nostat hP
  have hD := hD0.self (sz := s.heap.size)
  generalize hAe : va_A [] s.heap.size = A at hD hE hNS ⊢
  have hA : ∀ q : Nat, s.heap.size ≤ q → A q := fun q h => by rw [← hAe]; exact Or.inr h
  have hS : va_S A s.heap s.heap [] := va_S.rf
  have hl := lv_entry ([.int 108, .long a, .long b]) (n := 5) (Nat.le_of_ble_eq_true rfl)
  rw [lg_entry_eq]
  generalize (lg_sl ([.int 108, .long a, .long b]) ++ List.replicate (5 - (lg_sl ([.int 108, .long a, .long b])).length) Slot.unset).toArray = ls at hl ⊢
  have hl : lv_has ls 5 [(0, .int 108), (1, .long a), (3, .long b)] := hl
  refine lv_iload_n hx hb d_Ar_joinLongs_0 rfl (lv_at hl 0 rfl) ?_
  refine lv_tableIn (off := 79) (tgt := 80) hx hb d_Ar_joinLongs_1 (by decide) (by decide) (by decide) (by decide) ?_
  refine lv_lload_n hx hb d_Ar_joinLongs_80 rfl (lv_at hl 1 rfl) ?_
  refine lv_lload_n hx hb d_Ar_joinLongs_81 rfl (lv_at hl 2 rfl) ?_
  refine lv_lmul hx hb d_Ar_joinLongs_82 ?_
  exact ex_W (fun _ h => ex_mq h) (W.lret (v := a * b) hx hb hr (fun t ht hW => ⟨⟨_, ⟨congrArg (fun z => Outcome.returned (some (Value.long z))) (by simp [fJoin]), rfl⟩, by rw [ht]; exact hP, hD⟩, hS.F ht⟩) hS.2.2 d_Ar_joinLongs_83)
set_option maxHeartbeats 8000000 in
set_option maxRecDepth 100000 in
theorem c_Ar_joinLongs_109 (l : Launch) (htr : l.stackTraces = false) (G : va_G) (cB cI cJ cZ : ClassId) (a : Int64) (b : Int64) (sz : Nat) : MetX l y_Ar_joinLongs (wx y_Ar_joinLongs b_Ar_joinLongs 5 (some .long)) { frames := 0, cells := 0, slots := 0, locals := 0 } (XP G classes (xtys cB cI cJ cZ) xE [.int 109, .long a, .long b] [] sz) (XQ G classes (va_A [] sz) (fun o w1 => o = .returned (some (.long (fJoin 109 a b))) ∧ w1 = [])) 0 0 (va_A [] sz) := by
  refine ex_ofW (cc := b_Ar_joinLongs) (maxL := 5) (ret := (some .long)) (by decide) rfl ?_
  intro p e s m args below meth c s₁ B hml hno hv
  obtain ⟨rfl, hsz, hP, hK, hD0, hE⟩ := hv
  have hx := B.exec
  have hb := B.bytes
  have hr := B.returns
  have hts : ∀ w ∈ lw_good, w.before _ s = true := fun w h => atoms_spec (ws := wx y_Ar_joinLongs b_Ar_joinLongs 5 (some .long)) B.pre w (List.mem_cons_of_mem _ h)
  have hown : s.vm.findClass R_Ar = some m.cls := findClass_of_methodNamed B.named
  have hlocks := B.notSynchronized
  have htr9 : e.platform.stackTraces = false := by rw [B.admits.platform]; exact htr
  subst hsz
  have hNS := xx_nostat hP
  have hD := hD0.self (sz := s.heap.size)
  generalize hAe : va_A [] s.heap.size = A at hD hE hNS ⊢
  have hA : ∀ q : Nat, s.heap.size ≤ q → A q := fun q h => by rw [← hAe]; exact Or.inr h
  have hS : va_S A s.heap s.heap [] := va_S.rf
  have hl := lv_entry ([.int 109, .long a, .long b]) (n := 5) (Nat.le_of_ble_eq_true rfl)
  rw [lg_entry_eq]
  generalize (lg_sl ([.int 109, .long a, .long b]) ++ List.replicate (5 - (lg_sl ([.int 109, .long a, .long b])).length) Slot.unset).toArray = ls at hl ⊢
  have hl : lv_has ls 5 [(0, .int 109), (1, .long a), (3, .long b)] := hl
  refine lv_iload_n hx hb d_Ar_joinLongs_0 rfl (lv_at hl 0 rfl) ?_
  refine lv_tableIn (off := 83) (tgt := 84) hx hb d_Ar_joinLongs_1 (by decide) (by decide) (by decide) (by decide) ?_
  refine lv_lload_n hx hb d_Ar_joinLongs_84 rfl (lv_at hl 2 rfl) ?_
  refine lv_lconst (v := 0) hx hb d_Ar_joinLongs_85 (by decide) ?_
  refine W.lcmp hx hb d_Ar_joinLongs_86 ?_
  refine lv_if_ne (tgt := 94) hx hb d_Ar_joinLongs_87 (by decide) (fun c_1 => ?_) (fun c_1 => ?_)
  · refine lv_lload_n hx hb d_Ar_joinLongs_94 rfl (lv_at hl 1 rfl) ?_
    refine lv_lload_n hx hb d_Ar_joinLongs_95 rfl (lv_at hl 2 rfl) ?_
    refine lv_ldiv hx hb d_Ar_joinLongs_96 (fun q => c_1 (ar_cmp q)) ?_
    exact ex_W (fun _ h => ex_mq h) (W.lret (v := a / b) hx hb hr (fun t ht hW => ⟨⟨_, ⟨congrArg (fun z => Outcome.returned (some (Value.long z))) (by simp [fJoin, c_1]), rfl⟩, by rw [ht]; exact hP, hD⟩, hS.F ht⟩) hS.2.2 d_Ar_joinLongs_97)
  · refine lv_lconst (v := 0) hx hb d_Ar_joinLongs_90 (by decide) ?_
    refine lv_goto (tgt := 97) hx hb d_Ar_joinLongs_91 (by decide) ?_
    exact ex_W (fun _ h => ex_mq h) (W.lret (v := 0) hx hb hr (fun t ht hW => ⟨⟨_, ⟨congrArg (fun z => Outcome.returned (some (Value.long z))) (by simp [fJoin, c_1]), rfl⟩, by rw [ht]; exact hP, hD⟩, hS.F ht⟩) hS.2.2 d_Ar_joinLongs_97)
set_option maxHeartbeats 8000000 in
set_option maxRecDepth 100000 in
theorem c_Ar_joinLongs_110 (l : Launch) (htr : l.stackTraces = false) (G : va_G) (cB cI cJ cZ : ClassId) (a : Int64) (b : Int64) (sz : Nat) : MetX l y_Ar_joinLongs (wx y_Ar_joinLongs b_Ar_joinLongs 5 (some .long)) { frames := 2, cells := 0, slots := 0, locals := 48 } (XP G classes (xtys cB cI cJ cZ) xE [.int 110, .long a, .long b] [] sz) (XQ G classes (va_A [] sz) (fun o w1 => o = .returned (some (.long (fJoin 110 a b))) ∧ w1 = [])) 0 0 (va_A [] sz) := by
  refine ex_ofW (cc := b_Ar_joinLongs) (maxL := 5) (ret := (some .long)) (by decide) rfl ?_
  intro p e s m args below meth c s₁ B hml hno hv
  obtain ⟨rfl, hsz, hP, hK, hD0, hE⟩ := hv
  have hx := B.exec
  have hb := B.bytes
  have hr := B.returns
  have hts : ∀ w ∈ lw_good, w.before _ s = true := fun w h => atoms_spec (ws := wx y_Ar_joinLongs b_Ar_joinLongs 5 (some .long)) B.pre w (List.mem_cons_of_mem _ h)
  have hown : s.vm.findClass R_Ar = some m.cls := findClass_of_methodNamed B.named
  have hlocks := B.notSynchronized
  have htr9 : e.platform.stackTraces = false := by rw [B.admits.platform]; exact htr
  subst hsz
  have hNS := xx_nostat hP
  have hD := hD0.self (sz := s.heap.size)
  generalize hAe : va_A [] s.heap.size = A at hD hE hNS ⊢
  have hA : ∀ q : Nat, s.heap.size ≤ q → A q := fun q h => by rw [← hAe]; exact Or.inr h
  have hS : va_S A s.heap s.heap [] := va_S.rf
  have hl := lv_entry ([.int 110, .long a, .long b]) (n := 5) (Nat.le_of_ble_eq_true rfl)
  rw [lg_entry_eq]
  generalize (lg_sl ([.int 110, .long a, .long b]) ++ List.replicate (5 - (lg_sl ([.int 110, .long a, .long b])).length) Slot.unset).toArray = ls at hl ⊢
  have hl : lv_has ls 5 [(0, .int 110), (1, .long a), (3, .long b)] := hl
  refine lv_iload_n hx hb d_Ar_joinLongs_0 rfl (lv_at hl 0 rfl) ?_
  refine lv_tableIn (off := 97) (tgt := 98) hx hb d_Ar_joinLongs_1 (by decide) (by decide) (by decide) (by decide) ?_
  refine lv_lload_n hx hb d_Ar_joinLongs_98 rfl (lv_at hl 1 rfl) ?_
  refine lv_lload_n hx hb d_Ar_joinLongs_99 rfl (lv_at hl 2 rfl) ?_
  refine xx_callS (wc := []) (wr := []) (As := [.long a, .long b]) (rest := []) ⟨hx, hb, hml, hown, hts⟩ xE_st hK hE hA (c_Ar_quotient l htr G cB cI cJ cZ a b _) (xw_S 2 hts m_1063 m_1064 m_24 m_1065 (by decide +kernel) ⟨(Nat.le_of_ble_eq_true rfl), (Nat.le_of_ble_eq_true rfl)⟩) hP hD hS [] [] rfl rfl (by decide) (by decide) (by decide) rfl hl.1 rfl (Nat.le_of_ble_eq_true rfl) d_Ar_joinLongs_100 ⟨(Nat.le_of_ble_eq_true rfl), (Nat.le_of_ble_eq_true rfl)⟩ (fun v9 w9 H locs hp hP hD hS => ?_) (fun x9 w9 H9 l9 hp _ _ _ => absurd hp (by rintro ⟨ho, -⟩; cases ho))
  obtain ⟨ho, rfl⟩ := hp
  cases ho
  have hP : va_P G classes [] H := hP
  have hD : va_D A [] := hD
  exact ex_W (fun _ h => ex_mq h) (W.lret (v := fQuot a b) hx hb hr (fun t ht hW => ⟨⟨_, ⟨congrArg (fun z => Outcome.returned (some (Value.long z))) (by simp [fJoin]), rfl⟩, by rw [ht]; exact hP, hD⟩, hS.F ht⟩) hS.2.2 d_Ar_joinLongs_103)
set_option maxHeartbeats 8000000 in
set_option maxRecDepth 100000 in
theorem c_Ar_joinLongs_111 (l : Launch) (htr : l.stackTraces = false) (G : va_G) (cB cI cJ cZ : ClassId) (a : Int64) (b : Int64) (sz : Nat) : MetX l y_Ar_joinLongs (wx y_Ar_joinLongs b_Ar_joinLongs 5 (some .long)) { frames := 0, cells := 0, slots := 0, locals := 0 } (XP G classes (xtys cB cI cJ cZ) xE [.int 111, .long a, .long b] [] sz) (XQ G classes (va_A [] sz) (fun o w1 => o = .returned (some (.long (fJoin 111 a b))) ∧ w1 = [])) 0 0 (va_A [] sz) := by
  refine ex_ofW (cc := b_Ar_joinLongs) (maxL := 5) (ret := (some .long)) (by decide) rfl ?_
  intro p e s m args below meth c s₁ B hml hno hv
  obtain ⟨rfl, hsz, hP, hK, hD0, hE⟩ := hv
  have hx := B.exec
  have hb := B.bytes
  have hr := B.returns
  have hts : ∀ w ∈ lw_good, w.before _ s = true := fun w h => atoms_spec (ws := wx y_Ar_joinLongs b_Ar_joinLongs 5 (some .long)) B.pre w (List.mem_cons_of_mem _ h)
  have hown : s.vm.findClass R_Ar = some m.cls := findClass_of_methodNamed B.named
  have hlocks := B.notSynchronized
  have htr9 : e.platform.stackTraces = false := by rw [B.admits.platform]; exact htr
  subst hsz
  have hNS := xx_nostat hP
  have hD := hD0.self (sz := s.heap.size)
  generalize hAe : va_A [] s.heap.size = A at hD hE hNS ⊢
  have hA : ∀ q : Nat, s.heap.size ≤ q → A q := fun q h => by rw [← hAe]; exact Or.inr h
  have hS : va_S A s.heap s.heap [] := va_S.rf
  have hl := lv_entry ([.int 111, .long a, .long b]) (n := 5) (Nat.le_of_ble_eq_true rfl)
  rw [lg_entry_eq]
  generalize (lg_sl ([.int 111, .long a, .long b]) ++ List.replicate (5 - (lg_sl ([.int 111, .long a, .long b])).length) Slot.unset).toArray = ls at hl ⊢
  have hl : lv_has ls 5 [(0, .int 111), (1, .long a), (3, .long b)] := hl
  refine lv_iload_n hx hb d_Ar_joinLongs_0 rfl (lv_at hl 0 rfl) ?_
  refine lv_tableIn (off := 103) (tgt := 104) hx hb d_Ar_joinLongs_1 (by decide) (by decide) (by decide) (by decide) ?_
  refine lv_lload_n hx hb d_Ar_joinLongs_104 rfl (lv_at hl 2 rfl) ?_
  refine lv_lconst (v := 0) hx hb d_Ar_joinLongs_105 (by decide) ?_
  refine W.lcmp hx hb d_Ar_joinLongs_106 ?_
  refine lv_if_ne (tgt := 114) hx hb d_Ar_joinLongs_107 (by decide) (fun c_1 => ?_) (fun c_1 => ?_)
  · refine lv_lload_n hx hb d_Ar_joinLongs_114 rfl (lv_at hl 1 rfl) ?_
    refine lv_lload_n hx hb d_Ar_joinLongs_115 rfl (lv_at hl 2 rfl) ?_
    refine lv_lrem hx hb d_Ar_joinLongs_116 (fun q => c_1 (ar_cmp q)) ?_
    exact ex_W (fun _ h => ex_mq h) (W.lret (v := a - (a / b) * b) hx hb hr (fun t ht hW => ⟨⟨_, ⟨congrArg (fun z => Outcome.returned (some (Value.long z))) (by simp [fJoin, c_1]), rfl⟩, by rw [ht]; exact hP, hD⟩, hS.F ht⟩) hS.2.2 d_Ar_joinLongs_117)
  · refine lv_lconst (v := 0) hx hb d_Ar_joinLongs_110 (by decide) ?_
    refine lv_goto (tgt := 117) hx hb d_Ar_joinLongs_111 (by decide) ?_
    exact ex_W (fun _ h => ex_mq h) (W.lret (v := 0) hx hb hr (fun t ht hW => ⟨⟨_, ⟨congrArg (fun z => Outcome.returned (some (Value.long z))) (by simp [fJoin, c_1]), rfl⟩, by rw [ht]; exact hP, hD⟩, hS.F ht⟩) hS.2.2 d_Ar_joinLongs_117)
set_option maxHeartbeats 8000000 in
set_option maxRecDepth 100000 in
theorem c_Ar_joinLongs_112 (l : Launch) (htr : l.stackTraces = false) (G : va_G) (cB cI cJ cZ : ClassId) (a : Int64) (b : Int64) (sz : Nat) : MetX l y_Ar_joinLongs (wx y_Ar_joinLongs b_Ar_joinLongs 5 (some .long)) { frames := 2, cells := 0, slots := 0, locals := 48 } (XP G classes (xtys cB cI cJ cZ) xE [.int 112, .long a, .long b] [] sz) (XQ G classes (va_A [] sz) (fun o w1 => o = .returned (some (.long (fJoin 112 a b))) ∧ w1 = [])) 0 0 (va_A [] sz) := by
  refine ex_ofW (cc := b_Ar_joinLongs) (maxL := 5) (ret := (some .long)) (by decide) rfl ?_
  intro p e s m args below meth c s₁ B hml hno hv
  obtain ⟨rfl, hsz, hP, hK, hD0, hE⟩ := hv
  have hx := B.exec
  have hb := B.bytes
  have hr := B.returns
  have hts : ∀ w ∈ lw_good, w.before _ s = true := fun w h => atoms_spec (ws := wx y_Ar_joinLongs b_Ar_joinLongs 5 (some .long)) B.pre w (List.mem_cons_of_mem _ h)
  have hown : s.vm.findClass R_Ar = some m.cls := findClass_of_methodNamed B.named
  have hlocks := B.notSynchronized
  have htr9 : e.platform.stackTraces = false := by rw [B.admits.platform]; exact htr
  subst hsz
  have hNS := xx_nostat hP
  have hD := hD0.self (sz := s.heap.size)
  generalize hAe : va_A [] s.heap.size = A at hD hE hNS ⊢
  have hA : ∀ q : Nat, s.heap.size ≤ q → A q := fun q h => by rw [← hAe]; exact Or.inr h
  have hS : va_S A s.heap s.heap [] := va_S.rf
  have hl := lv_entry ([.int 112, .long a, .long b]) (n := 5) (Nat.le_of_ble_eq_true rfl)
  rw [lg_entry_eq]
  generalize (lg_sl ([.int 112, .long a, .long b]) ++ List.replicate (5 - (lg_sl ([.int 112, .long a, .long b])).length) Slot.unset).toArray = ls at hl ⊢
  have hl : lv_has ls 5 [(0, .int 112), (1, .long a), (3, .long b)] := hl
  refine lv_iload_n hx hb d_Ar_joinLongs_0 rfl (lv_at hl 0 rfl) ?_
  refine lv_tableIn (off := 117) (tgt := 118) hx hb d_Ar_joinLongs_1 (by decide) (by decide) (by decide) (by decide) ?_
  refine lv_lload_n hx hb d_Ar_joinLongs_118 rfl (lv_at hl 1 rfl) ?_
  refine lv_lload_n hx hb d_Ar_joinLongs_119 rfl (lv_at hl 1 rfl) ?_
  refine lv_lload_n hx hb d_Ar_joinLongs_120 rfl (lv_at hl 2 rfl) ?_
  refine xx_callS (wc := []) (wr := []) (As := [.long a, .long b]) (rest := [.long a]) ⟨hx, hb, hml, hown, hts⟩ xE_st hK hE hA (c_Ar_quotient l htr G cB cI cJ cZ a b _) (xw_S 2 hts m_1063 m_1064 m_24 m_1065 (by decide +kernel) ⟨(Nat.le_of_ble_eq_true rfl), (Nat.le_of_ble_eq_true rfl)⟩) hP hD hS [] [] rfl rfl (by decide) (by decide) (by decide) rfl hl.1 rfl (Nat.le_of_ble_eq_true rfl) d_Ar_joinLongs_121 ⟨(Nat.le_of_ble_eq_true rfl), (Nat.le_of_ble_eq_true rfl)⟩ (fun v9 w9 H locs hp hP hD hS => ?_) (fun x9 w9 H9 l9 hp _ _ _ => absurd hp (by rintro ⟨ho, -⟩; cases ho))
  obtain ⟨ho, rfl⟩ := hp
  cases ho
  have hP : va_P G classes [] H := hP
  have hD : va_D A [] := hD
  refine lv_lload_n hx hb d_Ar_joinLongs_124 rfl (lv_at hl 2 rfl) ?_
  refine lv_lmul hx hb d_Ar_joinLongs_125 ?_
  refine lv_lsub hx hb d_Ar_joinLongs_126 ?_
  exact ex_W (fun _ h => ex_mq h) (W.lret (v := a - ((fQuot a b) * b)) hx hb hr (fun t ht hW => ⟨⟨_, ⟨congrArg (fun z => Outcome.returned (some (Value.long z))) (by simp [fJoin]), rfl⟩, by rw [ht]; exact hP, hD⟩, hS.F ht⟩) hS.2.2 d_Ar_joinLongs_127)
set_option maxHeartbeats 8000000 in
set_option maxRecDepth 100000 in
theorem c_Ar_joinLongs_113 (l : Launch) (htr : l.stackTraces = false) (G : va_G) (cB cI cJ cZ : ClassId) (a : Int64) (b : Int64) (sz : Nat) : MetX l y_Ar_joinLongs (wx y_Ar_joinLongs b_Ar_joinLongs 5 (some .long)) { frames := 0, cells := 0, slots := 0, locals := 0 } (XP G classes (xtys cB cI cJ cZ) xE [.int 113, .long a, .long b] [] sz) (XQ G classes (va_A [] sz) (fun o w1 => o = .returned (some (.long (fJoin 113 a b))) ∧ w1 = [])) 0 0 (va_A [] sz) := by
  refine ex_ofW (cc := b_Ar_joinLongs) (maxL := 5) (ret := (some .long)) (by decide) rfl ?_
  intro p e s m args below meth c s₁ B hml hno hv
  obtain ⟨rfl, hsz, hP, hK, hD0, hE⟩ := hv
  have hx := B.exec
  have hb := B.bytes
  have hr := B.returns
  have hts : ∀ w ∈ lw_good, w.before _ s = true := fun w h => atoms_spec (ws := wx y_Ar_joinLongs b_Ar_joinLongs 5 (some .long)) B.pre w (List.mem_cons_of_mem _ h)
  have hown : s.vm.findClass R_Ar = some m.cls := findClass_of_methodNamed B.named
  have hlocks := B.notSynchronized
  have htr9 : e.platform.stackTraces = false := by rw [B.admits.platform]; exact htr
  subst hsz
  have hNS := xx_nostat hP
  have hD := hD0.self (sz := s.heap.size)
  generalize hAe : va_A [] s.heap.size = A at hD hE hNS ⊢
  have hA : ∀ q : Nat, s.heap.size ≤ q → A q := fun q h => by rw [← hAe]; exact Or.inr h
  have hS : va_S A s.heap s.heap [] := va_S.rf
  have hl := lv_entry ([.int 113, .long a, .long b]) (n := 5) (Nat.le_of_ble_eq_true rfl)
  rw [lg_entry_eq]
  generalize (lg_sl ([.int 113, .long a, .long b]) ++ List.replicate (5 - (lg_sl ([.int 113, .long a, .long b])).length) Slot.unset).toArray = ls at hl ⊢
  have hl : lv_has ls 5 [(0, .int 113), (1, .long a), (3, .long b)] := hl
  refine lv_iload_n hx hb d_Ar_joinLongs_0 rfl (lv_at hl 0 rfl) ?_
  refine lv_tableIn (off := 127) (tgt := 128) hx hb d_Ar_joinLongs_1 (by decide) (by decide) (by decide) (by decide) ?_
  refine lv_lload_n hx hb d_Ar_joinLongs_128 rfl (lv_at hl 1 rfl) ?_
  refine lv_lload_n hx hb d_Ar_joinLongs_129 rfl (lv_at hl 2 rfl) ?_
  refine lv_land hx hb d_Ar_joinLongs_130 ?_
  exact ex_W (fun _ h => ex_mq h) (W.lret (v := a &&& b) hx hb hr (fun t ht hW => ⟨⟨_, ⟨congrArg (fun z => Outcome.returned (some (Value.long z))) (by simp [fJoin]), rfl⟩, by rw [ht]; exact hP, hD⟩, hS.F ht⟩) hS.2.2 d_Ar_joinLongs_131)
set_option maxHeartbeats 8000000 in
set_option maxRecDepth 100000 in
theorem c_Ar_joinLongs_114 (l : Launch) (htr : l.stackTraces = false) (G : va_G) (cB cI cJ cZ : ClassId) (a : Int64) (b : Int64) (sz : Nat) : MetX l y_Ar_joinLongs (wx y_Ar_joinLongs b_Ar_joinLongs 5 (some .long)) { frames := 0, cells := 0, slots := 0, locals := 0 } (XP G classes (xtys cB cI cJ cZ) xE [.int 114, .long a, .long b] [] sz) (XQ G classes (va_A [] sz) (fun o w1 => o = .returned (some (.long (fJoin 114 a b))) ∧ w1 = [])) 0 0 (va_A [] sz) := by
  refine ex_ofW (cc := b_Ar_joinLongs) (maxL := 5) (ret := (some .long)) (by decide) rfl ?_
  intro p e s m args below meth c s₁ B hml hno hv
  obtain ⟨rfl, hsz, hP, hK, hD0, hE⟩ := hv
  have hx := B.exec
  have hb := B.bytes
  have hr := B.returns
  have hts : ∀ w ∈ lw_good, w.before _ s = true := fun w h => atoms_spec (ws := wx y_Ar_joinLongs b_Ar_joinLongs 5 (some .long)) B.pre w (List.mem_cons_of_mem _ h)
  have hown : s.vm.findClass R_Ar = some m.cls := findClass_of_methodNamed B.named
  have hlocks := B.notSynchronized
  have htr9 : e.platform.stackTraces = false := by rw [B.admits.platform]; exact htr
  subst hsz
  have hNS := xx_nostat hP
  have hD := hD0.self (sz := s.heap.size)
  generalize hAe : va_A [] s.heap.size = A at hD hE hNS ⊢
  have hA : ∀ q : Nat, s.heap.size ≤ q → A q := fun q h => by rw [← hAe]; exact Or.inr h
  have hS : va_S A s.heap s.heap [] := va_S.rf
  have hl := lv_entry ([.int 114, .long a, .long b]) (n := 5) (Nat.le_of_ble_eq_true rfl)
  rw [lg_entry_eq]
  generalize (lg_sl ([.int 114, .long a, .long b]) ++ List.replicate (5 - (lg_sl ([.int 114, .long a, .long b])).length) Slot.unset).toArray = ls at hl ⊢
  have hl : lv_has ls 5 [(0, .int 114), (1, .long a), (3, .long b)] := hl
  refine lv_iload_n hx hb d_Ar_joinLongs_0 rfl (lv_at hl 0 rfl) ?_
  refine lv_tableIn (off := 131) (tgt := 132) hx hb d_Ar_joinLongs_1 (by decide) (by decide) (by decide) (by decide) ?_
  refine lv_lload_n hx hb d_Ar_joinLongs_132 rfl (lv_at hl 1 rfl) ?_
  refine lv_lload_n hx hb d_Ar_joinLongs_133 rfl (lv_at hl 2 rfl) ?_
  refine lv_lor hx hb d_Ar_joinLongs_134 ?_
  exact ex_W (fun _ h => ex_mq h) (W.lret (v := a ||| b) hx hb hr (fun t ht hW => ⟨⟨_, ⟨congrArg (fun z => Outcome.returned (some (Value.long z))) (by simp [fJoin]), rfl⟩, by rw [ht]; exact hP, hD⟩, hS.F ht⟩) hS.2.2 d_Ar_joinLongs_135)
set_option maxHeartbeats 8000000 in
set_option maxRecDepth 100000 in
theorem c_Ar_joinLongs_115 (l : Launch) (htr : l.stackTraces = false) (G : va_G) (cB cI cJ cZ : ClassId) (a : Int64) (b : Int64) (sz : Nat) : MetX l y_Ar_joinLongs (wx y_Ar_joinLongs b_Ar_joinLongs 5 (some .long)) { frames := 0, cells := 0, slots := 0, locals := 0 } (XP G classes (xtys cB cI cJ cZ) xE [.int 115, .long a, .long b] [] sz) (XQ G classes (va_A [] sz) (fun o w1 => o = .returned (some (.long (fJoin 115 a b))) ∧ w1 = [])) 0 0 (va_A [] sz) := by
  refine ex_ofW (cc := b_Ar_joinLongs) (maxL := 5) (ret := (some .long)) (by decide) rfl ?_
  intro p e s m args below meth c s₁ B hml hno hv
  obtain ⟨rfl, hsz, hP, hK, hD0, hE⟩ := hv
  have hx := B.exec
  have hb := B.bytes
  have hr := B.returns
  have hts : ∀ w ∈ lw_good, w.before _ s = true := fun w h => atoms_spec (ws := wx y_Ar_joinLongs b_Ar_joinLongs 5 (some .long)) B.pre w (List.mem_cons_of_mem _ h)
  have hown : s.vm.findClass R_Ar = some m.cls := findClass_of_methodNamed B.named
  have hlocks := B.notSynchronized
  have htr9 : e.platform.stackTraces = false := by rw [B.admits.platform]; exact htr
  subst hsz
  have hNS := xx_nostat hP
  have hD := hD0.self (sz := s.heap.size)
  generalize hAe : va_A [] s.heap.size = A at hD hE hNS ⊢
  have hA : ∀ q : Nat, s.heap.size ≤ q → A q := fun q h => by rw [← hAe]; exact Or.inr h
  have hS : va_S A s.heap s.heap [] := va_S.rf
  have hl := lv_entry ([.int 115, .long a, .long b]) (n := 5) (Nat.le_of_ble_eq_true rfl)
  rw [lg_entry_eq]
  generalize (lg_sl ([.int 115, .long a, .long b]) ++ List.replicate (5 - (lg_sl ([.int 115, .long a, .long b])).length) Slot.unset).toArray = ls at hl ⊢
  have hl : lv_has ls 5 [(0, .int 115), (1, .long a), (3, .long b)] := hl
  refine lv_iload_n hx hb d_Ar_joinLongs_0 rfl (lv_at hl 0 rfl) ?_
  refine lv_tableIn (off := 135) (tgt := 136) hx hb d_Ar_joinLongs_1 (by decide) (by decide) (by decide) (by decide) ?_
  refine lv_lload_n hx hb d_Ar_joinLongs_136 rfl (lv_at hl 1 rfl) ?_
  refine lv_lload_n hx hb d_Ar_joinLongs_137 rfl (lv_at hl 2 rfl) ?_
  refine lv_lxor hx hb d_Ar_joinLongs_138 ?_
  exact ex_W (fun _ h => ex_mq h) (W.lret (v := a ^^^ b) hx hb hr (fun t ht hW => ⟨⟨_, ⟨congrArg (fun z => Outcome.returned (some (Value.long z))) (by simp [fJoin]), rfl⟩, by rw [ht]; exact hP, hD⟩, hS.F ht⟩) hS.2.2 d_Ar_joinLongs_139)
set_option maxHeartbeats 8000000 in
set_option maxRecDepth 100000 in
theorem c_Ar_joinLongs_116 (l : Launch) (htr : l.stackTraces = false) (G : va_G) (cB cI cJ cZ : ClassId) (a : Int64) (b : Int64) (sz : Nat) : MetX l y_Ar_joinLongs (wx y_Ar_joinLongs b_Ar_joinLongs 5 (some .long)) { frames := 0, cells := 0, slots := 0, locals := 0 } (XP G classes (xtys cB cI cJ cZ) xE [.int 116, .long a, .long b] [] sz) (XQ G classes (va_A [] sz) (fun o w1 => o = .returned (some (.long (fJoin 116 a b))) ∧ w1 = [])) 0 0 (va_A [] sz) := by
  refine ex_ofW (cc := b_Ar_joinLongs) (maxL := 5) (ret := (some .long)) (by decide) rfl ?_
  intro p e s m args below meth c s₁ B hml hno hv
  obtain ⟨rfl, hsz, hP, hK, hD0, hE⟩ := hv
  have hx := B.exec
  have hb := B.bytes
  have hr := B.returns
  have hts : ∀ w ∈ lw_good, w.before _ s = true := fun w h => atoms_spec (ws := wx y_Ar_joinLongs b_Ar_joinLongs 5 (some .long)) B.pre w (List.mem_cons_of_mem _ h)
  have hown : s.vm.findClass R_Ar = some m.cls := findClass_of_methodNamed B.named
  have hlocks := B.notSynchronized
  have htr9 : e.platform.stackTraces = false := by rw [B.admits.platform]; exact htr
  subst hsz
  have hNS := xx_nostat hP
  have hD := hD0.self (sz := s.heap.size)
  generalize hAe : va_A [] s.heap.size = A at hD hE hNS ⊢
  have hA : ∀ q : Nat, s.heap.size ≤ q → A q := fun q h => by rw [← hAe]; exact Or.inr h
  have hS : va_S A s.heap s.heap [] := va_S.rf
  have hl := lv_entry ([.int 116, .long a, .long b]) (n := 5) (Nat.le_of_ble_eq_true rfl)
  rw [lg_entry_eq]
  generalize (lg_sl ([.int 116, .long a, .long b]) ++ List.replicate (5 - (lg_sl ([.int 116, .long a, .long b])).length) Slot.unset).toArray = ls at hl ⊢
  have hl : lv_has ls 5 [(0, .int 116), (1, .long a), (3, .long b)] := hl
  refine lv_iload_n hx hb d_Ar_joinLongs_0 rfl (lv_at hl 0 rfl) ?_
  refine lv_tableIn (off := 139) (tgt := 140) hx hb d_Ar_joinLongs_1 (by decide) (by decide) (by decide) (by decide) ?_
  refine lv_lload_n hx hb d_Ar_joinLongs_140 rfl (lv_at hl 1 rfl) ?_
  refine lv_lload_n hx hb d_Ar_joinLongs_141 rfl (lv_at hl 2 rfl) ?_
  refine lv_l2i hx hb d_Ar_joinLongs_142 rfl ?_
  refine lv_lshl hx hb d_Ar_joinLongs_143 rfl ?_
  exact ex_W (fun _ h => ex_mq h) (W.lret (v := a <<< (b.toInt32.toInt64 &&& 63)) hx hb hr (fun t ht hW => ⟨⟨_, ⟨congrArg (fun z => Outcome.returned (some (Value.long z))) (by simp [fJoin]), rfl⟩, by rw [ht]; exact hP, hD⟩, hS.F ht⟩) hS.2.2 d_Ar_joinLongs_144)
set_option maxHeartbeats 8000000 in
set_option maxRecDepth 100000 in
theorem c_Ar_joinLongs_117 (l : Launch) (htr : l.stackTraces = false) (G : va_G) (cB cI cJ cZ : ClassId) (a : Int64) (b : Int64) (sz : Nat) : MetX l y_Ar_joinLongs (wx y_Ar_joinLongs b_Ar_joinLongs 5 (some .long)) { frames := 0, cells := 0, slots := 0, locals := 0 } (XP G classes (xtys cB cI cJ cZ) xE [.int 117, .long a, .long b] [] sz) (XQ G classes (va_A [] sz) (fun o w1 => o = .returned (some (.long (fJoin 117 a b))) ∧ w1 = [])) 0 0 (va_A [] sz) := by
  refine ex_ofW (cc := b_Ar_joinLongs) (maxL := 5) (ret := (some .long)) (by decide) rfl ?_
  intro p e s m args below meth c s₁ B hml hno hv
  obtain ⟨rfl, hsz, hP, hK, hD0, hE⟩ := hv
  have hx := B.exec
  have hb := B.bytes
  have hr := B.returns
  have hts : ∀ w ∈ lw_good, w.before _ s = true := fun w h => atoms_spec (ws := wx y_Ar_joinLongs b_Ar_joinLongs 5 (some .long)) B.pre w (List.mem_cons_of_mem _ h)
  have hown : s.vm.findClass R_Ar = some m.cls := findClass_of_methodNamed B.named
  have hlocks := B.notSynchronized
  have htr9 : e.platform.stackTraces = false := by rw [B.admits.platform]; exact htr
  subst hsz
  have hNS := xx_nostat hP
  have hD := hD0.self (sz := s.heap.size)
  generalize hAe : va_A [] s.heap.size = A at hD hE hNS ⊢
  have hA : ∀ q : Nat, s.heap.size ≤ q → A q := fun q h => by rw [← hAe]; exact Or.inr h
  have hS : va_S A s.heap s.heap [] := va_S.rf
  have hl := lv_entry ([.int 117, .long a, .long b]) (n := 5) (Nat.le_of_ble_eq_true rfl)
  rw [lg_entry_eq]
  generalize (lg_sl ([.int 117, .long a, .long b]) ++ List.replicate (5 - (lg_sl ([.int 117, .long a, .long b])).length) Slot.unset).toArray = ls at hl ⊢
  have hl : lv_has ls 5 [(0, .int 117), (1, .long a), (3, .long b)] := hl
  refine lv_iload_n hx hb d_Ar_joinLongs_0 rfl (lv_at hl 0 rfl) ?_
  refine lv_tableIn (off := 144) (tgt := 145) hx hb d_Ar_joinLongs_1 (by decide) (by decide) (by decide) (by decide) ?_
  refine lv_lload_n hx hb d_Ar_joinLongs_145 rfl (lv_at hl 1 rfl) ?_
  refine lv_lload_n hx hb d_Ar_joinLongs_146 rfl (lv_at hl 2 rfl) ?_
  refine lv_l2i hx hb d_Ar_joinLongs_147 rfl ?_
  refine lv_lshr hx hb d_Ar_joinLongs_148 rfl ?_
  exact ex_W (fun _ h => ex_mq h) (W.lret (v := a >>> (b.toInt32.toInt64 &&& 63)) hx hb hr (fun t ht hW => ⟨⟨_, ⟨congrArg (fun z => Outcome.returned (some (Value.long z))) (by simp [fJoin]), rfl⟩, by rw [ht]; exact hP, hD⟩, hS.F ht⟩) hS.2.2 d_Ar_joinLongs_149)
set_option maxHeartbeats 8000000 in
set_option maxRecDepth 100000 in
theorem c_Ar_joinLongs_118 (l : Launch) (htr : l.stackTraces = false) (G : va_G) (cB cI cJ cZ : ClassId) (a : Int64) (b : Int64) (sz : Nat) : MetX l y_Ar_joinLongs (wx y_Ar_joinLongs b_Ar_joinLongs 5 (some .long)) { frames := 0, cells := 0, slots := 0, locals := 0 } (XP G classes (xtys cB cI cJ cZ) xE [.int 118, .long a, .long b] [] sz) (XQ G classes (va_A [] sz) (fun o w1 => o = .returned (some (.long (fJoin 118 a b))) ∧ w1 = [])) 0 0 (va_A [] sz) := by
  refine ex_ofW (cc := b_Ar_joinLongs) (maxL := 5) (ret := (some .long)) (by decide) rfl ?_
  intro p e s m args below meth c s₁ B hml hno hv
  obtain ⟨rfl, hsz, hP, hK, hD0, hE⟩ := hv
  have hx := B.exec
  have hb := B.bytes
  have hr := B.returns
  have hts : ∀ w ∈ lw_good, w.before _ s = true := fun w h => atoms_spec (ws := wx y_Ar_joinLongs b_Ar_joinLongs 5 (some .long)) B.pre w (List.mem_cons_of_mem _ h)
  have hown : s.vm.findClass R_Ar = some m.cls := findClass_of_methodNamed B.named
  have hlocks := B.notSynchronized
  have htr9 : e.platform.stackTraces = false := by rw [B.admits.platform]; exact htr
  subst hsz
  have hNS := xx_nostat hP
  have hD := hD0.self (sz := s.heap.size)
  generalize hAe : va_A [] s.heap.size = A at hD hE hNS ⊢
  have hA : ∀ q : Nat, s.heap.size ≤ q → A q := fun q h => by rw [← hAe]; exact Or.inr h
  have hS : va_S A s.heap s.heap [] := va_S.rf
  have hl := lv_entry ([.int 118, .long a, .long b]) (n := 5) (Nat.le_of_ble_eq_true rfl)
  rw [lg_entry_eq]
  generalize (lg_sl ([.int 118, .long a, .long b]) ++ List.replicate (5 - (lg_sl ([.int 118, .long a, .long b])).length) Slot.unset).toArray = ls at hl ⊢
  have hl : lv_has ls 5 [(0, .int 118), (1, .long a), (3, .long b)] := hl
  refine lv_iload_n hx hb d_Ar_joinLongs_0 rfl (lv_at hl 0 rfl) ?_
  refine lv_tableIn (off := 149) (tgt := 150) hx hb d_Ar_joinLongs_1 (by decide) (by decide) (by decide) (by decide) ?_
  refine lv_lload_n hx hb d_Ar_joinLongs_150 rfl (lv_at hl 1 rfl) ?_
  refine lv_lload_n hx hb d_Ar_joinLongs_151 rfl (lv_at hl 2 rfl) ?_
  refine lv_l2i hx hb d_Ar_joinLongs_152 rfl ?_
  refine lv_lushr hx hb d_Ar_joinLongs_153 rfl ?_
  exact ex_W (fun _ h => ex_mq h) (W.lret (v := (a.toUInt64 >>> (b.toInt32.toInt64.toUInt64 &&& Int64.toUInt64 63)).toInt64) hx hb hr (fun t ht hW => ⟨⟨_, ⟨congrArg (fun z => Outcome.returned (some (Value.long z))) (by simp [fJoin]), rfl⟩, by rw [ht]; exact hP, hD⟩, hS.F ht⟩) hS.2.2 d_Ar_joinLongs_154)
set_option maxHeartbeats 8000000 in
set_option maxRecDepth 100000 in
theorem c_Ar_joinLongs_119 (l : Launch) (htr : l.stackTraces = false) (G : va_G) (cB cI cJ cZ : ClassId) (a : Int64) (b : Int64) (sz : Nat) : MetX l y_Ar_joinLongs (wx y_Ar_joinLongs b_Ar_joinLongs 5 (some .long)) { frames := 0, cells := 0, slots := 0, locals := 0 } (XP G classes (xtys cB cI cJ cZ) xE [.int 119, .long a, .long b] [] sz) (XQ G classes (va_A [] sz) (fun o w1 => o = .returned (some (.long (fJoin 119 a b))) ∧ w1 = [])) 0 0 (va_A [] sz) := by
  refine ex_ofW (cc := b_Ar_joinLongs) (maxL := 5) (ret := (some .long)) (by decide) rfl ?_
  intro p e s m args below meth c s₁ B hml hno hv
  obtain ⟨rfl, hsz, hP, hK, hD0, hE⟩ := hv
  have hx := B.exec
  have hb := B.bytes
  have hr := B.returns
  have hts : ∀ w ∈ lw_good, w.before _ s = true := fun w h => atoms_spec (ws := wx y_Ar_joinLongs b_Ar_joinLongs 5 (some .long)) B.pre w (List.mem_cons_of_mem _ h)
  have hown : s.vm.findClass R_Ar = some m.cls := findClass_of_methodNamed B.named
  have hlocks := B.notSynchronized
  have htr9 : e.platform.stackTraces = false := by rw [B.admits.platform]; exact htr
  subst hsz
  have hNS := xx_nostat hP
  have hD := hD0.self (sz := s.heap.size)
  generalize hAe : va_A [] s.heap.size = A at hD hE hNS ⊢
  have hA : ∀ q : Nat, s.heap.size ≤ q → A q := fun q h => by rw [← hAe]; exact Or.inr h
  have hS : va_S A s.heap s.heap [] := va_S.rf
  have hl := lv_entry ([.int 119, .long a, .long b]) (n := 5) (Nat.le_of_ble_eq_true rfl)
  rw [lg_entry_eq]
  generalize (lg_sl ([.int 119, .long a, .long b]) ++ List.replicate (5 - (lg_sl ([.int 119, .long a, .long b])).length) Slot.unset).toArray = ls at hl ⊢
  have hl : lv_has ls 5 [(0, .int 119), (1, .long a), (3, .long b)] := hl
  refine lv_iload_n hx hb d_Ar_joinLongs_0 rfl (lv_at hl 0 rfl) ?_
  refine lv_tableIn (off := 154) (tgt := 155) hx hb d_Ar_joinLongs_1 (by decide) (by decide) (by decide) (by decide) ?_
  refine lv_lload_n hx hb d_Ar_joinLongs_155 rfl (lv_at hl 1 rfl) ?_
  refine lv_lload_n hx hb d_Ar_joinLongs_156 rfl (lv_at hl 2 rfl) ?_
  refine lv_l2i hx hb d_Ar_joinLongs_157 rfl ?_
  refine lv_lshl hx hb d_Ar_joinLongs_158 rfl ?_
  refine lv_lload_n hx hb d_Ar_joinLongs_159 rfl (lv_at hl 1 rfl) ?_
  refine lv_lload_n hx hb d_Ar_joinLongs_160 rfl (lv_at hl 2 rfl) ?_
  refine lv_lneg hx hb d_Ar_joinLongs_161 ?_
  refine lv_l2i hx hb d_Ar_joinLongs_162 rfl ?_
  refine lv_lushr hx hb d_Ar_joinLongs_163 rfl ?_
  refine lv_lor hx hb d_Ar_joinLongs_164 ?_
  exact ex_W (fun _ h => ex_mq h) (W.lret (v := (a <<< (b.toInt32.toInt64 &&& 63)) ||| ((a.toUInt64 >>> (((-b).toInt32).toInt64.toUInt64 &&& Int64.toUInt64 63)).toInt64)) hx hb hr (fun t ht hW => ⟨⟨_, ⟨congrArg (fun z => Outcome.returned (some (Value.long z))) (by simp [fJoin]), rfl⟩, by rw [ht]; exact hP, hD⟩, hS.F ht⟩) hS.2.2 d_Ar_joinLongs_165)
set_option maxHeartbeats 8000000 in
set_option maxRecDepth 100000 in
theorem c_Ar_joinLongs_120 (l : Launch) (htr : l.stackTraces = false) (G : va_G) (cB cI cJ cZ : ClassId) (a : Int64) (b : Int64) (sz : Nat) : MetX l y_Ar_joinLongs (wx y_Ar_joinLongs b_Ar_joinLongs 5 (some .long)) { frames := 0, cells := 0, slots := 0, locals := 0 } (XP G classes (xtys cB cI cJ cZ) xE [.int 120, .long a, .long b] [] sz) (XQ G classes (va_A [] sz) (fun o w1 => o = .returned (some (.long (fJoin 120 a b))) ∧ w1 = [])) 0 0 (va_A [] sz) := by
  refine ex_ofW (cc := b_Ar_joinLongs) (maxL := 5) (ret := (some .long)) (by decide) rfl ?_
  intro p e s m args below meth c s₁ B hml hno hv
  obtain ⟨rfl, hsz, hP, hK, hD0, hE⟩ := hv
  have hx := B.exec
  have hb := B.bytes
  have hr := B.returns
  have hts : ∀ w ∈ lw_good, w.before _ s = true := fun w h => atoms_spec (ws := wx y_Ar_joinLongs b_Ar_joinLongs 5 (some .long)) B.pre w (List.mem_cons_of_mem _ h)
  have hown : s.vm.findClass R_Ar = some m.cls := findClass_of_methodNamed B.named
  have hlocks := B.notSynchronized
  have htr9 : e.platform.stackTraces = false := by rw [B.admits.platform]; exact htr
  subst hsz
  have hNS := xx_nostat hP
  have hD := hD0.self (sz := s.heap.size)
  generalize hAe : va_A [] s.heap.size = A at hD hE hNS ⊢
  have hA : ∀ q : Nat, s.heap.size ≤ q → A q := fun q h => by rw [← hAe]; exact Or.inr h
  have hS : va_S A s.heap s.heap [] := va_S.rf
  have hl := lv_entry ([.int 120, .long a, .long b]) (n := 5) (Nat.le_of_ble_eq_true rfl)
  rw [lg_entry_eq]
  generalize (lg_sl ([.int 120, .long a, .long b]) ++ List.replicate (5 - (lg_sl ([.int 120, .long a, .long b])).length) Slot.unset).toArray = ls at hl ⊢
  have hl : lv_has ls 5 [(0, .int 120), (1, .long a), (3, .long b)] := hl
  refine lv_iload_n hx hb d_Ar_joinLongs_0 rfl (lv_at hl 0 rfl) ?_
  refine lv_tableOut (tgt := 166) hx hb d_Ar_joinLongs_1 (by decide) (by decide) ?_
  refine lv_lload_n hx hb d_Ar_joinLongs_166 rfl (lv_at hl 1 rfl) ?_
  refine lv_lload_n hx hb d_Ar_joinLongs_167 rfl (lv_at hl 2 rfl) ?_
  refine lv_l2i hx hb d_Ar_joinLongs_168 rfl ?_
  refine lv_lushr hx hb d_Ar_joinLongs_169 rfl ?_
  refine lv_lload_n hx hb d_Ar_joinLongs_170 rfl (lv_at hl 1 rfl) ?_
  refine lv_lload_n hx hb d_Ar_joinLongs_171 rfl (lv_at hl 2 rfl) ?_
  refine lv_lneg hx hb d_Ar_joinLongs_172 ?_
  refine lv_l2i hx hb d_Ar_joinLongs_173 rfl ?_
  refine lv_lshl hx hb d_Ar_joinLongs_174 rfl ?_
  refine lv_lor hx hb d_Ar_joinLongs_175 ?_
  exact ex_W (fun _ h => ex_mq h) (W.lret (v := ((a.toUInt64 >>> (b.toInt32.toInt64.toUInt64 &&& Int64.toUInt64 63)).toInt64) ||| (a <<< (((-b).toInt32).toInt64 &&& 63))) hx hb hr (fun t ht hW => ⟨⟨_, ⟨congrArg (fun z => Outcome.returned (some (Value.long z))) (by simp [fJoin]), rfl⟩, by rw [ht]; exact hP, hD⟩, hS.F ht⟩) hS.2.2 d_Ar_joinLongs_176)
