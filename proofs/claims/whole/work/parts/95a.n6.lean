abbrev b_Mo_validModule : ByteArray := prog_14_method_15_code
def y_Mo_validModule : MethodName := ⟨R_Mo, "validModule", "()V"⟩
theorem d_Mo_validModule_0 : decode b_Mo_validModule 0 = .ok (.aload_n 0, 1) := by decide +kernel
theorem d_Mo_validModule_1 : decode b_Mo_validModule 1 = .ok (.aload_n 0, 1) := by decide +kernel
theorem d_Mo_validModule_2 : decode b_Mo_validModule 2 = .ok (.getfield 27, 3) := by decide +kernel
theorem d_Mo_validModule_5 : decode b_Mo_validModule 5 = .ok (.getfield 63, 3) := by decide +kernel
theorem d_Mo_validModule_8 : decode b_Mo_validModule 8 = .ok (.ifCond .eq 49, 3) := by decide +kernel
theorem d_Mo_validModule_11 : decode b_Mo_validModule 11 = .ok (.aload_n 0, 1) := by decide +kernel
theorem d_Mo_validModule_12 : decode b_Mo_validModule 12 = .ok (.getfield 27, 3) := by decide +kernel
theorem d_Mo_validModule_15 : decode b_Mo_validModule 15 = .ok (.getfield 110, 3) := by decide +kernel
theorem d_Mo_validModule_18 : decode b_Mo_validModule 18 = .ok (.ldc2_w 184, 3) := by decide +kernel
theorem d_Mo_validModule_21 : decode b_Mo_validModule 21 = .ok (.lcmp, 1) := by decide +kernel
theorem d_Mo_validModule_22 : decode b_Mo_validModule 22 = .ok (.ifCond .gt 39, 3) := by decide +kernel
theorem d_Mo_validModule_25 : decode b_Mo_validModule 25 = .ok (.aload_n 0, 1) := by decide +kernel
theorem d_Mo_validModule_26 : decode b_Mo_validModule 26 = .ok (.getfield 27, 3) := by decide +kernel
theorem d_Mo_validModule_29 : decode b_Mo_validModule 29 = .ok (.getfield 116, 3) := by decide +kernel
theorem d_Mo_validModule_32 : decode b_Mo_validModule 32 = .ok (.ldc2_w 114, 3) := by decide +kernel
theorem d_Mo_validModule_35 : decode b_Mo_validModule 35 = .ok (.lcmp, 1) := by decide +kernel
theorem d_Mo_validModule_36 : decode b_Mo_validModule 36 = .ok (.ifCond .gt 25, 3) := by decide +kernel
theorem d_Mo_validModule_39 : decode b_Mo_validModule 39 = .ok (.aload_n 0, 1) := by decide +kernel
theorem d_Mo_validModule_40 : decode b_Mo_validModule 40 = .ok (.getfield 27, 3) := by decide +kernel
theorem d_Mo_validModule_43 : decode b_Mo_validModule 43 = .ok (.getfield 116, 3) := by decide +kernel
theorem d_Mo_validModule_46 : decode b_Mo_validModule 46 = .ok (.aload_n 0, 1) := by decide +kernel
theorem d_Mo_validModule_47 : decode b_Mo_validModule 47 = .ok (.getfield 27, 3) := by decide +kernel
theorem d_Mo_validModule_50 : decode b_Mo_validModule 50 = .ok (.getfield 110, 3) := by decide +kernel
theorem d_Mo_validModule_53 : decode b_Mo_validModule 53 = .ok (.lcmp, 1) := by decide +kernel
theorem d_Mo_validModule_54 : decode b_Mo_validModule 54 = .ok (.ifCond .lt 7, 3) := by decide +kernel
theorem d_Mo_validModule_57 : decode b_Mo_validModule 57 = .ok (.iconst 1, 1) := by decide +kernel
theorem d_Mo_validModule_58 : decode b_Mo_validModule 58 = .ok (.goto 4, 3) := by decide +kernel
theorem d_Mo_validModule_61 : decode b_Mo_validModule 61 = .ok (.iconst 0, 1) := by decide +kernel
theorem d_Mo_validModule_62 : decode b_Mo_validModule 62 = .ok (.invokevirtual 186, 3) := by decide +kernel
theorem d_Mo_validModule_65 : decode b_Mo_validModule 65 = .ok (.iconst 0, 1) := by decide +kernel
theorem d_Mo_validModule_66 : decode b_Mo_validModule 66 = .ok (.istore_n 1, 1) := by decide +kernel
theorem d_Mo_validModule_67 : decode b_Mo_validModule 67 = .ok (.iload_n 1, 1) := by decide +kernel
theorem d_Mo_validModule_68 : decode b_Mo_validModule 68 = .ok (.aload_n 0, 1) := by decide +kernel
theorem d_Mo_validModule_69 : decode b_Mo_validModule 69 = .ok (.getfield 27, 3) := by decide +kernel
theorem d_Mo_validModule_72 : decode b_Mo_validModule 72 = .ok (.getfield 57, 3) := by decide +kernel
theorem d_Mo_validModule_75 : decode b_Mo_validModule 75 = .ok (.if_icmp .ge 39, 3) := by decide +kernel
theorem d_Mo_validModule_78 : decode b_Mo_validModule 78 = .ok (.aload_n 0, 1) := by decide +kernel
theorem d_Mo_validModule_79 : decode b_Mo_validModule 79 = .ok (.aload_n 0, 1) := by decide +kernel
theorem d_Mo_validModule_80 : decode b_Mo_validModule 80 = .ok (.getfield 27, 3) := by decide +kernel
theorem d_Mo_validModule_83 : decode b_Mo_validModule 83 = .ok (.getfield 99, 3) := by decide +kernel
theorem d_Mo_validModule_86 : decode b_Mo_validModule 86 = .ok (.iload_n 1, 1) := by decide +kernel
theorem d_Mo_validModule_87 : decode b_Mo_validModule 87 = .ok (.laload, 1) := by decide +kernel
theorem d_Mo_validModule_88 : decode b_Mo_validModule 88 = .ok (.aload_n 0, 1) := by decide +kernel
theorem d_Mo_validModule_89 : decode b_Mo_validModule 89 = .ok (.getfield 27, 3) := by decide +kernel
theorem d_Mo_validModule_92 : decode b_Mo_validModule 92 = .ok (.getfield 54, 3) := by decide +kernel
theorem d_Mo_validModule_95 : decode b_Mo_validModule 95 = .ok (.i2l, 1) := by decide +kernel
theorem d_Mo_validModule_96 : decode b_Mo_validModule 96 = .ok (.lcmp, 1) := by decide +kernel
theorem d_Mo_validModule_97 : decode b_Mo_validModule 97 = .ok (.ifCond .ge 7, 3) := by decide +kernel
theorem d_Mo_validModule_100 : decode b_Mo_validModule 100 = .ok (.iconst 1, 1) := by decide +kernel
theorem d_Mo_validModule_101 : decode b_Mo_validModule 101 = .ok (.goto 4, 3) := by decide +kernel
theorem d_Mo_validModule_104 : decode b_Mo_validModule 104 = .ok (.iconst 0, 1) := by decide +kernel
theorem d_Mo_validModule_105 : decode b_Mo_validModule 105 = .ok (.invokevirtual 186, 3) := by decide +kernel
theorem d_Mo_validModule_108 : decode b_Mo_validModule 108 = .ok (.iinc 1 1, 3) := by decide +kernel
theorem d_Mo_validModule_111 : decode b_Mo_validModule 111 = .ok (.goto (-44), 3) := by decide +kernel
theorem d_Mo_validModule_114 : decode b_Mo_validModule 114 = .ok (.iconst 0, 1) := by decide +kernel
theorem d_Mo_validModule_115 : decode b_Mo_validModule 115 = .ok (.istore_n 1, 1) := by decide +kernel
theorem d_Mo_validModule_116 : decode b_Mo_validModule 116 = .ok (.iload_n 1, 1) := by decide +kernel
theorem d_Mo_validModule_117 : decode b_Mo_validModule 117 = .ok (.aload_n 0, 1) := by decide +kernel
theorem d_Mo_validModule_118 : decode b_Mo_validModule 118 = .ok (.getfield 27, 3) := by decide +kernel
theorem d_Mo_validModule_121 : decode b_Mo_validModule 121 = .ok (.getfield 66, 3) := by decide +kernel
theorem d_Mo_validModule_124 : decode b_Mo_validModule 124 = .ok (.if_icmp .ge 39, 3) := by decide +kernel
theorem d_Mo_validModule_127 : decode b_Mo_validModule 127 = .ok (.aload_n 0, 1) := by decide +kernel
theorem d_Mo_validModule_128 : decode b_Mo_validModule 128 = .ok (.aload_n 0, 1) := by decide +kernel
theorem d_Mo_validModule_129 : decode b_Mo_validModule 129 = .ok (.getfield 27, 3) := by decide +kernel
theorem d_Mo_validModule_132 : decode b_Mo_validModule 132 = .ok (.getfield 139, 3) := by decide +kernel
theorem d_Mo_validModule_135 : decode b_Mo_validModule 135 = .ok (.iload_n 1, 1) := by decide +kernel
theorem d_Mo_validModule_136 : decode b_Mo_validModule 136 = .ok (.iaload, 1) := by decide +kernel
theorem d_Mo_validModule_137 : decode b_Mo_validModule 137 = .ok (.aload_n 0, 1) := by decide +kernel
theorem d_Mo_validModule_138 : decode b_Mo_validModule 138 = .ok (.getfield 27, 3) := by decide +kernel
theorem d_Mo_validModule_141 : decode b_Mo_validModule 141 = .ok (.getfield 146, 3) := by decide +kernel
theorem d_Mo_validModule_144 : decode b_Mo_validModule 144 = .ok (.iload_n 1, 1) := by decide +kernel
theorem d_Mo_validModule_145 : decode b_Mo_validModule 145 = .ok (.iaload, 1) := by decide +kernel
theorem d_Mo_validModule_146 : decode b_Mo_validModule 146 = .ok (.if_icmp .ne 7, 3) := by decide +kernel
theorem d_Mo_validModule_149 : decode b_Mo_validModule 149 = .ok (.iconst 1, 1) := by decide +kernel
theorem d_Mo_validModule_150 : decode b_Mo_validModule 150 = .ok (.goto 4, 3) := by decide +kernel
theorem d_Mo_validModule_153 : decode b_Mo_validModule 153 = .ok (.iconst 0, 1) := by decide +kernel
theorem d_Mo_validModule_154 : decode b_Mo_validModule 154 = .ok (.invokevirtual 186, 3) := by decide +kernel
theorem d_Mo_validModule_157 : decode b_Mo_validModule 157 = .ok (.iinc 1 1, 3) := by decide +kernel
theorem d_Mo_validModule_160 : decode b_Mo_validModule 160 = .ok (.goto (-44), 3) := by decide +kernel
theorem d_Mo_validModule_163 : decode b_Mo_validModule 163 = .ok (.iconst 0, 1) := by decide +kernel
theorem d_Mo_validModule_164 : decode b_Mo_validModule 164 = .ok (.istore_n 1, 1) := by decide +kernel
theorem d_Mo_validModule_165 : decode b_Mo_validModule 165 = .ok (.iload_n 1, 1) := by decide +kernel
theorem d_Mo_validModule_166 : decode b_Mo_validModule 166 = .ok (.aload_n 0, 1) := by decide +kernel
theorem d_Mo_validModule_167 : decode b_Mo_validModule 167 = .ok (.getfield 27, 3) := by decide +kernel
theorem d_Mo_validModule_170 : decode b_Mo_validModule 170 = .ok (.getfield 69, 3) := by decide +kernel
theorem d_Mo_validModule_173 : decode b_Mo_validModule 173 = .ok (.if_icmp .ge 139, 3) := by decide +kernel
theorem d_Mo_validModule_176 : decode b_Mo_validModule 176 = .ok (.aload_n 0, 1) := by decide +kernel
theorem d_Mo_validModule_177 : decode b_Mo_validModule 177 = .ok (.aload_n 0, 1) := by decide +kernel
theorem d_Mo_validModule_178 : decode b_Mo_validModule 178 = .ok (.getfield 27, 3) := by decide +kernel
theorem d_Mo_validModule_181 : decode b_Mo_validModule 181 = .ok (.getfield 133, 3) := by decide +kernel
theorem d_Mo_validModule_184 : decode b_Mo_validModule 184 = .ok (.iload_n 1, 1) := by decide +kernel
theorem d_Mo_validModule_185 : decode b_Mo_validModule 185 = .ok (.laload, 1) := by decide +kernel
theorem d_Mo_validModule_186 : decode b_Mo_validModule 186 = .ok (.aload_n 0, 1) := by decide +kernel
theorem d_Mo_validModule_187 : decode b_Mo_validModule 187 = .ok (.getfield 27, 3) := by decide +kernel
theorem d_Mo_validModule_190 : decode b_Mo_validModule 190 = .ok (.getfield 130, 3) := by decide +kernel
theorem d_Mo_validModule_193 : decode b_Mo_validModule 193 = .ok (.iload_n 1, 1) := by decide +kernel
theorem d_Mo_validModule_194 : decode b_Mo_validModule 194 = .ok (.iaload, 1) := by decide +kernel
theorem d_Mo_validModule_195 : decode b_Mo_validModule 195 = .ok (.ifCond .ne 13, 3) := by decide +kernel
theorem d_Mo_validModule_198 : decode b_Mo_validModule 198 = .ok (.aload_n 0, 1) := by decide +kernel
theorem d_Mo_validModule_199 : decode b_Mo_validModule 199 = .ok (.getfield 27, 3) := by decide +kernel
theorem d_Mo_validModule_202 : decode b_Mo_validModule 202 = .ok (.getfield 57, 3) := by decide +kernel
theorem d_Mo_validModule_205 : decode b_Mo_validModule 205 = .ok (.goto 33, 3) := by decide +kernel
theorem d_Mo_validModule_208 : decode b_Mo_validModule 208 = .ok (.aload_n 0, 1) := by decide +kernel
theorem d_Mo_validModule_209 : decode b_Mo_validModule 209 = .ok (.getfield 27, 3) := by decide +kernel
theorem d_Mo_validModule_212 : decode b_Mo_validModule 212 = .ok (.getfield 130, 3) := by decide +kernel
theorem d_Mo_validModule_215 : decode b_Mo_validModule 215 = .ok (.iload_n 1, 1) := by decide +kernel
theorem d_Mo_validModule_216 : decode b_Mo_validModule 216 = .ok (.iaload, 1) := by decide +kernel
theorem d_Mo_validModule_217 : decode b_Mo_validModule 217 = .ok (.iconst 2, 1) := by decide +kernel
theorem d_Mo_validModule_218 : decode b_Mo_validModule 218 = .ok (.if_icmp .ne 13, 3) := by decide +kernel
theorem d_Mo_validModule_221 : decode b_Mo_validModule 221 = .ok (.aload_n 0, 1) := by decide +kernel
