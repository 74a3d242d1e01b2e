abbrev b_Mo_validCode : ByteArray := prog_14_method_25_code
def y_Mo_validCode : MethodName := ⟨R_Mo, "validCode", "(I)V"⟩
theorem d_Mo_validCode_0 : decode b_Mo_validCode 0 = .ok (.aload_n 0, 1) := by decide +kernel
theorem d_Mo_validCode_1 : decode b_Mo_validCode 1 = .ok (.iload_n 1, 1) := by decide +kernel
theorem d_Mo_validCode_2 : decode b_Mo_validCode 2 = .ok (.putfield 227, 3) := by decide +kernel
theorem d_Mo_validCode_5 : decode b_Mo_validCode 5 = .ok (.aload_n 0, 1) := by decide +kernel
theorem d_Mo_validCode_6 : decode b_Mo_validCode 6 = .ok (.aload_n 0, 1) := by decide +kernel
theorem d_Mo_validCode_7 : decode b_Mo_validCode 7 = .ok (.getfield 27, 3) := by decide +kernel
theorem d_Mo_validCode_10 : decode b_Mo_validCode 10 = .ok (.getfield 164, 3) := by decide +kernel
theorem d_Mo_validCode_13 : decode b_Mo_validCode 13 = .ok (.iload_n 1, 1) := by decide +kernel
theorem d_Mo_validCode_14 : decode b_Mo_validCode 14 = .ok (.iaload, 1) := by decide +kernel
theorem d_Mo_validCode_15 : decode b_Mo_validCode 15 = .ok (.putfield 17, 3) := by decide +kernel
theorem d_Mo_validCode_18 : decode b_Mo_validCode 18 = .ok (.aload_n 0, 1) := by decide +kernel
theorem d_Mo_validCode_19 : decode b_Mo_validCode 19 = .ok (.aload_n 0, 1) := by decide +kernel
theorem d_Mo_validCode_20 : decode b_Mo_validCode 20 = .ok (.getfield 27, 3) := by decide +kernel
theorem d_Mo_validCode_23 : decode b_Mo_validCode 23 = .ok (.getfield 167, 3) := by decide +kernel
theorem d_Mo_validCode_26 : decode b_Mo_validCode 26 = .ok (.iload_n 1, 1) := by decide +kernel
theorem d_Mo_validCode_27 : decode b_Mo_validCode 27 = .ok (.iaload, 1) := by decide +kernel
theorem d_Mo_validCode_28 : decode b_Mo_validCode 28 = .ok (.putfield 20, 3) := by decide +kernel
theorem d_Mo_validCode_31 : decode b_Mo_validCode 31 = .ok (.aload_n 0, 1) := by decide +kernel
theorem d_Mo_validCode_32 : decode b_Mo_validCode 32 = .ok (.iconst 0, 1) := by decide +kernel
theorem d_Mo_validCode_33 : decode b_Mo_validCode 33 = .ok (.putfield 203, 3) := by decide +kernel
theorem d_Mo_validCode_36 : decode b_Mo_validCode 36 = .ok (.aload_n 0, 1) := by decide +kernel
theorem d_Mo_validCode_37 : decode b_Mo_validCode 37 = .ok (.iconst 0, 1) := by decide +kernel
theorem d_Mo_validCode_38 : decode b_Mo_validCode 38 = .ok (.putfield 209, 3) := by decide +kernel
theorem d_Mo_validCode_41 : decode b_Mo_validCode 41 = .ok (.aload_n 0, 1) := by decide +kernel
theorem d_Mo_validCode_42 : decode b_Mo_validCode 42 = .ok (.getfield 27, 3) := by decide +kernel
theorem d_Mo_validCode_45 : decode b_Mo_validCode 45 = .ok (.getfield 94, 3) := by decide +kernel
theorem d_Mo_validCode_48 : decode b_Mo_validCode 48 = .ok (.aload_n 0, 1) := by decide +kernel
theorem d_Mo_validCode_49 : decode b_Mo_validCode 49 = .ok (.iload_n 1, 1) := by decide +kernel
theorem d_Mo_validCode_50 : decode b_Mo_validCode 50 = .ok (.invokevirtual 196, 3) := by decide +kernel
theorem d_Mo_validCode_53 : decode b_Mo_validCode 53 = .ok (.iaload, 1) := by decide +kernel
theorem d_Mo_validCode_54 : decode b_Mo_validCode 54 = .ok (.istore_n 2, 1) := by decide +kernel
theorem d_Mo_validCode_55 : decode b_Mo_validCode 55 = .ok (.aload_n 0, 1) := by decide +kernel
theorem d_Mo_validCode_56 : decode b_Mo_validCode 56 = .ok (.iconst 0, 1) := by decide +kernel
theorem d_Mo_validCode_57 : decode b_Mo_validCode 57 = .ok (.iload_n 2, 1) := by decide +kernel
theorem d_Mo_validCode_58 : decode b_Mo_validCode 58 = .ok (.iload_n 2, 1) := by decide +kernel
theorem d_Mo_validCode_59 : decode b_Mo_validCode 59 = .ok (.invokevirtual 230, 3) := by decide +kernel
theorem d_Mo_validCode_62 : decode b_Mo_validCode 62 = .ok (.aload_n 0, 1) := by decide +kernel
theorem d_Mo_validCode_63 : decode b_Mo_validCode 63 = .ok (.getfield 209, 3) := by decide +kernel
theorem d_Mo_validCode_66 : decode b_Mo_validCode 66 = .ok (.ifCond .le 128, 3) := by decide +kernel
theorem d_Mo_validCode_69 : decode b_Mo_validCode 69 = .ok (.aload_n 0, 1) := by decide +kernel
theorem d_Mo_validCode_70 : decode b_Mo_validCode 70 = .ok (.invokevirtual 37, 3) := by decide +kernel
theorem d_Mo_validCode_73 : decode b_Mo_validCode 73 = .ok (.istore_n 3, 1) := by decide +kernel
theorem d_Mo_validCode_74 : decode b_Mo_validCode 74 = .ok (.iload_n 3, 1) := by decide +kernel
theorem d_Mo_validCode_75 : decode b_Mo_validCode 75 = .ok (.bipush 11, 2) := by decide +kernel
theorem d_Mo_validCode_77 : decode b_Mo_validCode 77 = .ok (.if_icmp .ne 109, 3) := by decide +kernel
theorem d_Mo_validCode_80 : decode b_Mo_validCode 80 = .ok (.aload_n 0, 1) := by decide +kernel
theorem d_Mo_validCode_81 : decode b_Mo_validCode 81 = .ok (.aload_n 0, 1) := by decide +kernel
theorem d_Mo_validCode_82 : decode b_Mo_validCode 82 = .ok (.getfield 224, 3) := by decide +kernel
theorem d_Mo_validCode_85 : decode b_Mo_validCode 85 = .ok (.aload_n 0, 1) := by decide +kernel
theorem d_Mo_validCode_86 : decode b_Mo_validCode 86 = .ok (.getfield 209, 3) := by decide +kernel
theorem d_Mo_validCode_89 : decode b_Mo_validCode 89 = .ok (.iconst 1, 1) := by decide +kernel
theorem d_Mo_validCode_90 : decode b_Mo_validCode 90 = .ok (.isub, 1) := by decide +kernel
theorem d_Mo_validCode_91 : decode b_Mo_validCode 91 = .ok (.iaload, 1) := by decide +kernel
theorem d_Mo_validCode_92 : decode b_Mo_validCode 92 = .ok (.invokevirtual 234, 3) := by decide +kernel
theorem d_Mo_validCode_95 : decode b_Mo_validCode 95 = .ok (.aload_n 0, 1) := by decide +kernel
theorem d_Mo_validCode_96 : decode b_Mo_validCode 96 = .ok (.aload_n 0, 1) := by decide +kernel
theorem d_Mo_validCode_97 : decode b_Mo_validCode 97 = .ok (.getfield 203, 3) := by decide +kernel
theorem d_Mo_validCode_100 : decode b_Mo_validCode 100 = .ok (.aload_n 0, 1) := by decide +kernel
theorem d_Mo_validCode_101 : decode b_Mo_validCode 101 = .ok (.getfield 206, 3) := by decide +kernel
theorem d_Mo_validCode_104 : decode b_Mo_validCode 104 = .ok (.aload_n 0, 1) := by decide +kernel
theorem d_Mo_validCode_105 : decode b_Mo_validCode 105 = .ok (.getfield 209, 3) := by decide +kernel
theorem d_Mo_validCode_108 : decode b_Mo_validCode 108 = .ok (.iconst 1, 1) := by decide +kernel
theorem d_Mo_validCode_109 : decode b_Mo_validCode 109 = .ok (.isub, 1) := by decide +kernel
theorem d_Mo_validCode_110 : decode b_Mo_validCode 110 = .ok (.iaload, 1) := by decide +kernel
theorem d_Mo_validCode_111 : decode b_Mo_validCode 111 = .ok (.if_icmp .ne 7, 3) := by decide +kernel
theorem d_Mo_validCode_114 : decode b_Mo_validCode 114 = .ok (.iconst 1, 1) := by decide +kernel
theorem d_Mo_validCode_115 : decode b_Mo_validCode 115 = .ok (.goto 4, 3) := by decide +kernel
theorem d_Mo_validCode_118 : decode b_Mo_validCode 118 = .ok (.iconst 0, 1) := by decide +kernel
theorem d_Mo_validCode_119 : decode b_Mo_validCode 119 = .ok (.invokevirtual 186, 3) := by decide +kernel
theorem d_Mo_validCode_122 : decode b_Mo_validCode 122 = .ok (.aload_n 0, 1) := by decide +kernel
theorem d_Mo_validCode_123 : decode b_Mo_validCode 123 = .ok (.aload_n 0, 1) := by decide +kernel
theorem d_Mo_validCode_124 : decode b_Mo_validCode 124 = .ok (.getfield 218, 3) := by decide +kernel
theorem d_Mo_validCode_127 : decode b_Mo_validCode 127 = .ok (.aload_n 0, 1) := by decide +kernel
theorem d_Mo_validCode_128 : decode b_Mo_validCode 128 = .ok (.getfield 209, 3) := by decide +kernel
theorem d_Mo_validCode_131 : decode b_Mo_validCode 131 = .ok (.iconst 1, 1) := by decide +kernel
theorem d_Mo_validCode_132 : decode b_Mo_validCode 132 = .ok (.isub, 1) := by decide +kernel
theorem d_Mo_validCode_133 : decode b_Mo_validCode 133 = .ok (.iaload, 1) := by decide +kernel
theorem d_Mo_validCode_134 : decode b_Mo_validCode 134 = .ok (.iconst 4, 1) := by decide +kernel
theorem d_Mo_validCode_135 : decode b_Mo_validCode 135 = .ok (.if_icmp .ne 17, 3) := by decide +kernel
theorem d_Mo_validCode_138 : decode b_Mo_validCode 138 = .ok (.aload_n 0, 1) := by decide +kernel
theorem d_Mo_validCode_139 : decode b_Mo_validCode 139 = .ok (.getfield 224, 3) := by decide +kernel
theorem d_Mo_validCode_142 : decode b_Mo_validCode 142 = .ok (.aload_n 0, 1) := by decide +kernel
theorem d_Mo_validCode_143 : decode b_Mo_validCode 143 = .ok (.getfield 209, 3) := by decide +kernel
theorem d_Mo_validCode_146 : decode b_Mo_validCode 146 = .ok (.iconst 1, 1) := by decide +kernel
theorem d_Mo_validCode_147 : decode b_Mo_validCode 147 = .ok (.isub, 1) := by decide +kernel
theorem d_Mo_validCode_148 : decode b_Mo_validCode 148 = .ok (.iaload, 1) := by decide +kernel
theorem d_Mo_validCode_149 : decode b_Mo_validCode 149 = .ok (.ifCond .ne 7, 3) := by decide +kernel
theorem d_Mo_validCode_152 : decode b_Mo_validCode 152 = .ok (.iconst 1, 1) := by decide +kernel
theorem d_Mo_validCode_153 : decode b_Mo_validCode 153 = .ok (.goto 4, 3) := by decide +kernel
theorem d_Mo_validCode_156 : decode b_Mo_validCode 156 = .ok (.iconst 0, 1) := by decide +kernel
theorem d_Mo_validCode_157 : decode b_Mo_validCode 157 = .ok (.invokevirtual 186, 3) := by decide +kernel
theorem d_Mo_validCode_160 : decode b_Mo_validCode 160 = .ok (.aload_n 0, 1) := by decide +kernel
theorem d_Mo_validCode_161 : decode b_Mo_validCode 161 = .ok (.dup, 1) := by decide +kernel
theorem d_Mo_validCode_162 : decode b_Mo_validCode 162 = .ok (.getfield 209, 3) := by decide +kernel
theorem d_Mo_validCode_165 : decode b_Mo_validCode 165 = .ok (.iconst 1, 1) := by decide +kernel
theorem d_Mo_validCode_166 : decode b_Mo_validCode 166 = .ok (.isub, 1) := by decide +kernel
theorem d_Mo_validCode_167 : decode b_Mo_validCode 167 = .ok (.putfield 209, 3) := by decide +kernel
theorem d_Mo_validCode_170 : decode b_Mo_validCode 170 = .ok (.aload_n 0, 1) := by decide +kernel
theorem d_Mo_validCode_171 : decode b_Mo_validCode 171 = .ok (.aload_n 0, 1) := by decide +kernel
theorem d_Mo_validCode_172 : decode b_Mo_validCode 172 = .ok (.getfield 224, 3) := by decide +kernel
theorem d_Mo_validCode_175 : decode b_Mo_validCode 175 = .ok (.aload_n 0, 1) := by decide +kernel
theorem d_Mo_validCode_176 : decode b_Mo_validCode 176 = .ok (.getfield 209, 3) := by decide +kernel
theorem d_Mo_validCode_179 : decode b_Mo_validCode 179 = .ok (.iaload, 1) := by decide +kernel
theorem d_Mo_validCode_180 : decode b_Mo_validCode 180 = .ok (.invokevirtual 237, 3) := by decide +kernel
theorem d_Mo_validCode_183 : decode b_Mo_validCode 183 = .ok (.goto 8, 3) := by decide +kernel
theorem d_Mo_validCode_186 : decode b_Mo_validCode 186 = .ok (.aload_n 0, 1) := by decide +kernel
theorem d_Mo_validCode_187 : decode b_Mo_validCode 187 = .ok (.iload_n 3, 1) := by decide +kernel
theorem d_Mo_validCode_188 : decode b_Mo_validCode 188 = .ok (.invokevirtual 240, 3) := by decide +kernel
theorem d_Mo_validCode_191 : decode b_Mo_validCode 191 = .ok (.goto (-129), 3) := by decide +kernel
theorem d_Mo_validCode_194 : decode b_Mo_validCode 194 = .ok (.return_, 1) := by decide +kernel
