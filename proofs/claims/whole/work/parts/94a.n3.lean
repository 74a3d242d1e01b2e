abbrev b_Mo_readModule : ByteArray := prog_14_method_9_code
def y_Mo_readModule : MethodName := ⟨R_Mo, "readModule", "()V"⟩
theorem d_Mo_readModule_0 : decode b_Mo_readModule 0 = .ok (.aload_n 0, 1) := by decide +kernel
theorem d_Mo_readModule_1 : decode b_Mo_readModule 1 = .ok (.iconst 0, 1) := by decide +kernel
theorem d_Mo_readModule_2 : decode b_Mo_readModule 2 = .ok (.putfield 17, 3) := by decide +kernel
theorem d_Mo_readModule_5 : decode b_Mo_readModule 5 = .ok (.aload_n 0, 1) := by decide +kernel
theorem d_Mo_readModule_6 : decode b_Mo_readModule 6 = .ok (.aload_n 0, 1) := by decide +kernel
theorem d_Mo_readModule_7 : decode b_Mo_readModule 7 = .ok (.getfield 27, 3) := by decide +kernel
theorem d_Mo_readModule_10 : decode b_Mo_readModule 10 = .ok (.getfield 51, 3) := by decide +kernel
theorem d_Mo_readModule_13 : decode b_Mo_readModule 13 = .ok (.putfield 20, 3) := by decide +kernel
theorem d_Mo_readModule_16 : decode b_Mo_readModule 16 = .ok (.aload_n 0, 1) := by decide +kernel
theorem d_Mo_readModule_17 : decode b_Mo_readModule 17 = .ok (.getfield 27, 3) := by decide +kernel
theorem d_Mo_readModule_20 : decode b_Mo_readModule 20 = .ok (.iconst 0, 1) := by decide +kernel
theorem d_Mo_readModule_21 : decode b_Mo_readModule 21 = .ok (.putfield 54, 3) := by decide +kernel
theorem d_Mo_readModule_24 : decode b_Mo_readModule 24 = .ok (.aload_n 0, 1) := by decide +kernel
theorem d_Mo_readModule_25 : decode b_Mo_readModule 25 = .ok (.getfield 27, 3) := by decide +kernel
theorem d_Mo_readModule_28 : decode b_Mo_readModule 28 = .ok (.iconst 0, 1) := by decide +kernel
theorem d_Mo_readModule_29 : decode b_Mo_readModule 29 = .ok (.putfield 57, 3) := by decide +kernel
theorem d_Mo_readModule_32 : decode b_Mo_readModule 32 = .ok (.aload_n 0, 1) := by decide +kernel
theorem d_Mo_readModule_33 : decode b_Mo_readModule 33 = .ok (.getfield 27, 3) := by decide +kernel
theorem d_Mo_readModule_36 : decode b_Mo_readModule 36 = .ok (.iconst 0, 1) := by decide +kernel
theorem d_Mo_readModule_37 : decode b_Mo_readModule 37 = .ok (.putfield 60, 3) := by decide +kernel
theorem d_Mo_readModule_40 : decode b_Mo_readModule 40 = .ok (.aload_n 0, 1) := by decide +kernel
theorem d_Mo_readModule_41 : decode b_Mo_readModule 41 = .ok (.getfield 27, 3) := by decide +kernel
theorem d_Mo_readModule_44 : decode b_Mo_readModule 44 = .ok (.iconst 0, 1) := by decide +kernel
theorem d_Mo_readModule_45 : decode b_Mo_readModule 45 = .ok (.putfield 63, 3) := by decide +kernel
theorem d_Mo_readModule_48 : decode b_Mo_readModule 48 = .ok (.aload_n 0, 1) := by decide +kernel
theorem d_Mo_readModule_49 : decode b_Mo_readModule 49 = .ok (.getfield 27, 3) := by decide +kernel
theorem d_Mo_readModule_52 : decode b_Mo_readModule 52 = .ok (.iconst 0, 1) := by decide +kernel
theorem d_Mo_readModule_53 : decode b_Mo_readModule 53 = .ok (.putfield 66, 3) := by decide +kernel
theorem d_Mo_readModule_56 : decode b_Mo_readModule 56 = .ok (.aload_n 0, 1) := by decide +kernel
theorem d_Mo_readModule_57 : decode b_Mo_readModule 57 = .ok (.getfield 27, 3) := by decide +kernel
theorem d_Mo_readModule_60 : decode b_Mo_readModule 60 = .ok (.iconst 0, 1) := by decide +kernel
theorem d_Mo_readModule_61 : decode b_Mo_readModule 61 = .ok (.putfield 69, 3) := by decide +kernel
theorem d_Mo_readModule_64 : decode b_Mo_readModule 64 = .ok (.iconst 0, 1) := by decide +kernel
theorem d_Mo_readModule_65 : decode b_Mo_readModule 65 = .ok (.istore_n 1, 1) := by decide +kernel
theorem d_Mo_readModule_66 : decode b_Mo_readModule 66 = .ok (.iload_n 1, 1) := by decide +kernel
theorem d_Mo_readModule_67 : decode b_Mo_readModule 67 = .ok (.bipush 8, 2) := by decide +kernel
theorem d_Mo_readModule_69 : decode b_Mo_readModule 69 = .ok (.if_icmp .ge 31, 3) := by decide +kernel
theorem d_Mo_readModule_72 : decode b_Mo_readModule 72 = .ok (.aload_n 0, 1) := by decide +kernel
theorem d_Mo_readModule_73 : decode b_Mo_readModule 73 = .ok (.aload_n 0, 1) := by decide +kernel
theorem d_Mo_readModule_74 : decode b_Mo_readModule 74 = .ok (.invokevirtual 37, 3) := by decide +kernel
theorem d_Mo_readModule_77 : decode b_Mo_readModule 77 = .ok (.aload_n 0, 1) := by decide +kernel
theorem d_Mo_readModule_78 : decode b_Mo_readModule 78 = .ok (.getfield 72, 3) := by decide +kernel
theorem d_Mo_readModule_81 : decode b_Mo_readModule 81 = .ok (.iload_n 1, 1) := by decide +kernel
theorem d_Mo_readModule_82 : decode b_Mo_readModule 82 = .ok (.iaload, 1) := by decide +kernel
theorem d_Mo_readModule_83 : decode b_Mo_readModule 83 = .ok (.if_icmp .ne 7, 3) := by decide +kernel
theorem d_Mo_readModule_86 : decode b_Mo_readModule 86 = .ok (.iconst 1, 1) := by decide +kernel
theorem d_Mo_readModule_87 : decode b_Mo_readModule 87 = .ok (.goto 4, 3) := by decide +kernel
theorem d_Mo_readModule_90 : decode b_Mo_readModule 90 = .ok (.iconst 0, 1) := by decide +kernel
theorem d_Mo_readModule_91 : decode b_Mo_readModule 91 = .ok (.invokevirtual 23, 3) := by decide +kernel
theorem d_Mo_readModule_94 : decode b_Mo_readModule 94 = .ok (.iinc 1 1, 3) := by decide +kernel
theorem d_Mo_readModule_97 : decode b_Mo_readModule 97 = .ok (.goto (-31), 3) := by decide +kernel
theorem d_Mo_readModule_100 : decode b_Mo_readModule 100 = .ok (.iconst 0, 1) := by decide +kernel
theorem d_Mo_readModule_101 : decode b_Mo_readModule 101 = .ok (.istore_n 1, 1) := by decide +kernel
theorem d_Mo_readModule_102 : decode b_Mo_readModule 102 = .ok (.aload_n 0, 1) := by decide +kernel
theorem d_Mo_readModule_103 : decode b_Mo_readModule 103 = .ok (.getfield 17, 3) := by decide +kernel
theorem d_Mo_readModule_106 : decode b_Mo_readModule 106 = .ok (.aload_n 0, 1) := by decide +kernel
theorem d_Mo_readModule_107 : decode b_Mo_readModule 107 = .ok (.getfield 27, 3) := by decide +kernel
theorem d_Mo_readModule_110 : decode b_Mo_readModule 110 = .ok (.getfield 51, 3) := by decide +kernel
theorem d_Mo_readModule_113 : decode b_Mo_readModule 113 = .ok (.if_icmp .ge 150, 3) := by decide +kernel
theorem d_Mo_readModule_116 : decode b_Mo_readModule 116 = .ok (.aload_n 0, 1) := by decide +kernel
theorem d_Mo_readModule_117 : decode b_Mo_readModule 117 = .ok (.aload_n 0, 1) := by decide +kernel
theorem d_Mo_readModule_118 : decode b_Mo_readModule 118 = .ok (.getfield 27, 3) := by decide +kernel
theorem d_Mo_readModule_121 : decode b_Mo_readModule 121 = .ok (.getfield 51, 3) := by decide +kernel
theorem d_Mo_readModule_124 : decode b_Mo_readModule 124 = .ok (.putfield 20, 3) := by decide +kernel
theorem d_Mo_readModule_127 : decode b_Mo_readModule 127 = .ok (.aload_n 0, 1) := by decide +kernel
theorem d_Mo_readModule_128 : decode b_Mo_readModule 128 = .ok (.invokevirtual 37, 3) := by decide +kernel
theorem d_Mo_readModule_131 : decode b_Mo_readModule 131 = .ok (.istore_n 2, 1) := by decide +kernel
theorem d_Mo_readModule_132 : decode b_Mo_readModule 132 = .ok (.aload_n 0, 1) := by decide +kernel
theorem d_Mo_readModule_133 : decode b_Mo_readModule 133 = .ok (.invokevirtual 41, 3) := by decide +kernel
theorem d_Mo_readModule_136 : decode b_Mo_readModule 136 = .ok (.lstore_n 3, 1) := by decide +kernel
theorem d_Mo_readModule_137 : decode b_Mo_readModule 137 = .ok (.aload_n 0, 1) := by decide +kernel
theorem d_Mo_readModule_138 : decode b_Mo_readModule 138 = .ok (.lload_n 3, 1) := by decide +kernel
theorem d_Mo_readModule_139 : decode b_Mo_readModule 139 = .ok (.aload_n 0, 1) := by decide +kernel
theorem d_Mo_readModule_140 : decode b_Mo_readModule 140 = .ok (.getfield 27, 3) := by decide +kernel
theorem d_Mo_readModule_143 : decode b_Mo_readModule 143 = .ok (.getfield 51, 3) := by decide +kernel
theorem d_Mo_readModule_146 : decode b_Mo_readModule 146 = .ok (.aload_n 0, 1) := by decide +kernel
theorem d_Mo_readModule_147 : decode b_Mo_readModule 147 = .ok (.getfield 17, 3) := by decide +kernel
theorem d_Mo_readModule_150 : decode b_Mo_readModule 150 = .ok (.isub, 1) := by decide +kernel
theorem d_Mo_readModule_151 : decode b_Mo_readModule 151 = .ok (.i2l, 1) := by decide +kernel
theorem d_Mo_readModule_152 : decode b_Mo_readModule 152 = .ok (.lcmp, 1) := by decide +kernel
theorem d_Mo_readModule_153 : decode b_Mo_readModule 153 = .ok (.ifCond .gt 7, 3) := by decide +kernel
theorem d_Mo_readModule_156 : decode b_Mo_readModule 156 = .ok (.iconst 1, 1) := by decide +kernel
theorem d_Mo_readModule_157 : decode b_Mo_readModule 157 = .ok (.goto 4, 3) := by decide +kernel
theorem d_Mo_readModule_160 : decode b_Mo_readModule 160 = .ok (.iconst 0, 1) := by decide +kernel
theorem d_Mo_readModule_161 : decode b_Mo_readModule 161 = .ok (.invokevirtual 23, 3) := by decide +kernel
theorem d_Mo_readModule_164 : decode b_Mo_readModule 164 = .ok (.aload_n 0, 1) := by decide +kernel
theorem d_Mo_readModule_165 : decode b_Mo_readModule 165 = .ok (.getfield 17, 3) := by decide +kernel
theorem d_Mo_readModule_168 : decode b_Mo_readModule 168 = .ok (.lload_n 3, 1) := by decide +kernel
theorem d_Mo_readModule_169 : decode b_Mo_readModule 169 = .ok (.l2i, 1) := by decide +kernel
theorem d_Mo_readModule_170 : decode b_Mo_readModule 170 = .ok (.iadd, 1) := by decide +kernel
theorem d_Mo_readModule_171 : decode b_Mo_readModule 171 = .ok (.istore 5, 2) := by decide +kernel
theorem d_Mo_readModule_173 : decode b_Mo_readModule 173 = .ok (.aload_n 0, 1) := by decide +kernel
theorem d_Mo_readModule_174 : decode b_Mo_readModule 174 = .ok (.iload 5, 2) := by decide +kernel
theorem d_Mo_readModule_176 : decode b_Mo_readModule 176 = .ok (.putfield 20, 3) := by decide +kernel
theorem d_Mo_readModule_179 : decode b_Mo_readModule 179 = .ok (.iload_n 2, 1) := by decide +kernel
theorem d_Mo_readModule_180 : decode b_Mo_readModule 180 = .ok (.ifCond .ne 41, 3) := by decide +kernel
theorem d_Mo_readModule_183 : decode b_Mo_readModule 183 = .ok (.aload_n 0, 1) := by decide +kernel
theorem d_Mo_readModule_184 : decode b_Mo_readModule 184 = .ok (.invokevirtual 41, 3) := by decide +kernel
theorem d_Mo_readModule_187 : decode b_Mo_readModule 187 = .ok (.lstore 6, 2) := by decide +kernel
theorem d_Mo_readModule_189 : decode b_Mo_readModule 189 = .ok (.aload_n 0, 1) := by decide +kernel
theorem d_Mo_readModule_190 : decode b_Mo_readModule 190 = .ok (.lload 6, 2) := by decide +kernel
theorem d_Mo_readModule_192 : decode b_Mo_readModule 192 = .ok (.iload 5, 2) := by decide +kernel
theorem d_Mo_readModule_194 : decode b_Mo_readModule 194 = .ok (.aload_n 0, 1) := by decide +kernel
theorem d_Mo_readModule_195 : decode b_Mo_readModule 195 = .ok (.getfield 17, 3) := by decide +kernel
theorem d_Mo_readModule_198 : decode b_Mo_readModule 198 = .ok (.isub, 1) := by decide +kernel
theorem d_Mo_readModule_199 : decode b_Mo_readModule 199 = .ok (.i2l, 1) := by decide +kernel
theorem d_Mo_readModule_200 : decode b_Mo_readModule 200 = .ok (.lcmp, 1) := by decide +kernel
theorem d_Mo_readModule_201 : decode b_Mo_readModule 201 = .ok (.ifCond .gt 7, 3) := by decide +kernel
theorem d_Mo_readModule_204 : decode b_Mo_readModule 204 = .ok (.iconst 1, 1) := by decide +kernel
theorem d_Mo_readModule_205 : decode b_Mo_readModule 205 = .ok (.goto 4, 3) := by decide +kernel
