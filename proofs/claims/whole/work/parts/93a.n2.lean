abbrev b_Mo_sectionOf : ByteArray := prog_14_method_10_code
def y_Mo_sectionOf : MethodName := ⟨R_Mo, "sectionOf", "(I)V"⟩
theorem d_Mo_sectionOf_0 : decode b_Mo_sectionOf 0 = .ok (.iload_n 1, 1) := by decide +kernel
theorem d_Mo_sectionOf_1 : decode b_Mo_sectionOf 1 = .ok (.tableswitch 607 1 10 #[55, 607, 186, 607, 236, 338, 379, 607, 607, 566], 55) := by decide +kernel
theorem d_Mo_sectionOf_56 : decode b_Mo_sectionOf 56 = .ok (.aload_n 0, 1) := by decide +kernel
theorem d_Mo_sectionOf_57 : decode b_Mo_sectionOf 57 = .ok (.getfield 27, 3) := by decide +kernel
theorem d_Mo_sectionOf_60 : decode b_Mo_sectionOf 60 = .ok (.aload_n 0, 1) := by decide +kernel
theorem d_Mo_sectionOf_61 : decode b_Mo_sectionOf 61 = .ok (.ldc2_w 80, 3) := by decide +kernel
theorem d_Mo_sectionOf_64 : decode b_Mo_sectionOf 64 = .ok (.invokevirtual 47, 3) := by decide +kernel
theorem d_Mo_sectionOf_67 : decode b_Mo_sectionOf 67 = .ok (.putfield 54, 3) := by decide +kernel
theorem d_Mo_sectionOf_70 : decode b_Mo_sectionOf 70 = .ok (.iconst 0, 1) := by decide +kernel
theorem d_Mo_sectionOf_71 : decode b_Mo_sectionOf 71 = .ok (.istore_n 2, 1) := by decide +kernel
theorem d_Mo_sectionOf_72 : decode b_Mo_sectionOf 72 = .ok (.iload_n 2, 1) := by decide +kernel
theorem d_Mo_sectionOf_73 : decode b_Mo_sectionOf 73 = .ok (.aload_n 0, 1) := by decide +kernel
theorem d_Mo_sectionOf_74 : decode b_Mo_sectionOf 74 = .ok (.getfield 27, 3) := by decide +kernel
theorem d_Mo_sectionOf_77 : decode b_Mo_sectionOf 77 = .ok (.getfield 54, 3) := by decide +kernel
theorem d_Mo_sectionOf_80 : decode b_Mo_sectionOf 80 = .ok (.if_icmp .ge 104, 3) := by decide +kernel
theorem d_Mo_sectionOf_83 : decode b_Mo_sectionOf 83 = .ok (.aload_n 0, 1) := by decide +kernel
theorem d_Mo_sectionOf_84 : decode b_Mo_sectionOf 84 = .ok (.aload_n 0, 1) := by decide +kernel
theorem d_Mo_sectionOf_85 : decode b_Mo_sectionOf 85 = .ok (.invokevirtual 37, 3) := by decide +kernel
theorem d_Mo_sectionOf_88 : decode b_Mo_sectionOf 88 = .ok (.bipush 96, 2) := by decide +kernel
theorem d_Mo_sectionOf_90 : decode b_Mo_sectionOf 90 = .ok (.if_icmp .ne 7, 3) := by decide +kernel
theorem d_Mo_sectionOf_93 : decode b_Mo_sectionOf 93 = .ok (.iconst 1, 1) := by decide +kernel
theorem d_Mo_sectionOf_94 : decode b_Mo_sectionOf 94 = .ok (.goto 4, 3) := by decide +kernel
theorem d_Mo_sectionOf_97 : decode b_Mo_sectionOf 97 = .ok (.iconst 0, 1) := by decide +kernel
theorem d_Mo_sectionOf_98 : decode b_Mo_sectionOf 98 = .ok (.invokevirtual 23, 3) := by decide +kernel
theorem d_Mo_sectionOf_101 : decode b_Mo_sectionOf 101 = .ok (.aload_n 0, 1) := by decide +kernel
theorem d_Mo_sectionOf_102 : decode b_Mo_sectionOf 102 = .ok (.getfield 27, 3) := by decide +kernel
theorem d_Mo_sectionOf_105 : decode b_Mo_sectionOf 105 = .ok (.getfield 82, 3) := by decide +kernel
theorem d_Mo_sectionOf_108 : decode b_Mo_sectionOf 108 = .ok (.iload_n 2, 1) := by decide +kernel
theorem d_Mo_sectionOf_109 : decode b_Mo_sectionOf 109 = .ok (.aload_n 0, 1) := by decide +kernel
theorem d_Mo_sectionOf_110 : decode b_Mo_sectionOf 110 = .ok (.ldc2_w 85, 3) := by decide +kernel
theorem d_Mo_sectionOf_113 : decode b_Mo_sectionOf 113 = .ok (.invokevirtual 47, 3) := by decide +kernel
theorem d_Mo_sectionOf_116 : decode b_Mo_sectionOf 116 = .ok (.iastore, 1) := by decide +kernel
theorem d_Mo_sectionOf_117 : decode b_Mo_sectionOf 117 = .ok (.iconst 0, 1) := by decide +kernel
theorem d_Mo_sectionOf_118 : decode b_Mo_sectionOf 118 = .ok (.istore_n 3, 1) := by decide +kernel
theorem d_Mo_sectionOf_119 : decode b_Mo_sectionOf 119 = .ok (.iload_n 3, 1) := by decide +kernel
theorem d_Mo_sectionOf_120 : decode b_Mo_sectionOf 120 = .ok (.aload_n 0, 1) := by decide +kernel
theorem d_Mo_sectionOf_121 : decode b_Mo_sectionOf 121 = .ok (.getfield 27, 3) := by decide +kernel
theorem d_Mo_sectionOf_124 : decode b_Mo_sectionOf 124 = .ok (.getfield 82, 3) := by decide +kernel
theorem d_Mo_sectionOf_127 : decode b_Mo_sectionOf 127 = .ok (.iload_n 2, 1) := by decide +kernel
theorem d_Mo_sectionOf_128 : decode b_Mo_sectionOf 128 = .ok (.iaload, 1) := by decide +kernel
theorem d_Mo_sectionOf_129 : decode b_Mo_sectionOf 129 = .ok (.if_icmp .ge 24, 3) := by decide +kernel
theorem d_Mo_sectionOf_132 : decode b_Mo_sectionOf 132 = .ok (.aload_n 0, 1) := by decide +kernel
theorem d_Mo_sectionOf_133 : decode b_Mo_sectionOf 133 = .ok (.getfield 27, 3) := by decide +kernel
theorem d_Mo_sectionOf_136 : decode b_Mo_sectionOf 136 = .ok (.getfield 87, 3) := by decide +kernel
theorem d_Mo_sectionOf_139 : decode b_Mo_sectionOf 139 = .ok (.iload_n 2, 1) := by decide +kernel
theorem d_Mo_sectionOf_140 : decode b_Mo_sectionOf 140 = .ok (.aaload, 1) := by decide +kernel
theorem d_Mo_sectionOf_141 : decode b_Mo_sectionOf 141 = .ok (.iload_n 3, 1) := by decide +kernel
theorem d_Mo_sectionOf_142 : decode b_Mo_sectionOf 142 = .ok (.aload_n 0, 1) := by decide +kernel
theorem d_Mo_sectionOf_143 : decode b_Mo_sectionOf 143 = .ok (.invokevirtual 91, 3) := by decide +kernel
theorem d_Mo_sectionOf_146 : decode b_Mo_sectionOf 146 = .ok (.iastore, 1) := by decide +kernel
theorem d_Mo_sectionOf_147 : decode b_Mo_sectionOf 147 = .ok (.iinc 3 1, 3) := by decide +kernel
theorem d_Mo_sectionOf_150 : decode b_Mo_sectionOf 150 = .ok (.goto (-31), 3) := by decide +kernel
theorem d_Mo_sectionOf_153 : decode b_Mo_sectionOf 153 = .ok (.aload_n 0, 1) := by decide +kernel
theorem d_Mo_sectionOf_154 : decode b_Mo_sectionOf 154 = .ok (.getfield 27, 3) := by decide +kernel
theorem d_Mo_sectionOf_157 : decode b_Mo_sectionOf 157 = .ok (.getfield 94, 3) := by decide +kernel
theorem d_Mo_sectionOf_160 : decode b_Mo_sectionOf 160 = .ok (.iload_n 2, 1) := by decide +kernel
theorem d_Mo_sectionOf_161 : decode b_Mo_sectionOf 161 = .ok (.aload_n 0, 1) := by decide +kernel
theorem d_Mo_sectionOf_162 : decode b_Mo_sectionOf 162 = .ok (.lconst 1, 1) := by decide +kernel
theorem d_Mo_sectionOf_163 : decode b_Mo_sectionOf 163 = .ok (.invokevirtual 47, 3) := by decide +kernel
theorem d_Mo_sectionOf_166 : decode b_Mo_sectionOf 166 = .ok (.ifCond .ne 7, 3) := by decide +kernel
theorem d_Mo_sectionOf_169 : decode b_Mo_sectionOf 169 = .ok (.iconst 0, 1) := by decide +kernel
theorem d_Mo_sectionOf_170 : decode b_Mo_sectionOf 170 = .ok (.goto 7, 3) := by decide +kernel
theorem d_Mo_sectionOf_173 : decode b_Mo_sectionOf 173 = .ok (.aload_n 0, 1) := by decide +kernel
theorem d_Mo_sectionOf_174 : decode b_Mo_sectionOf 174 = .ok (.invokevirtual 91, 3) := by decide +kernel
theorem d_Mo_sectionOf_177 : decode b_Mo_sectionOf 177 = .ok (.iastore, 1) := by decide +kernel
theorem d_Mo_sectionOf_178 : decode b_Mo_sectionOf 178 = .ok (.iinc 2 1, 3) := by decide +kernel
theorem d_Mo_sectionOf_181 : decode b_Mo_sectionOf 181 = .ok (.goto (-109), 3) := by decide +kernel
theorem d_Mo_sectionOf_184 : decode b_Mo_sectionOf 184 = .ok (.goto 430, 3) := by decide +kernel
theorem d_Mo_sectionOf_187 : decode b_Mo_sectionOf 187 = .ok (.aload_n 0, 1) := by decide +kernel
theorem d_Mo_sectionOf_188 : decode b_Mo_sectionOf 188 = .ok (.getfield 27, 3) := by decide +kernel
theorem d_Mo_sectionOf_191 : decode b_Mo_sectionOf 191 = .ok (.aload_n 0, 1) := by decide +kernel
theorem d_Mo_sectionOf_192 : decode b_Mo_sectionOf 192 = .ok (.ldc2_w 97, 3) := by decide +kernel
theorem d_Mo_sectionOf_195 : decode b_Mo_sectionOf 195 = .ok (.invokevirtual 47, 3) := by decide +kernel
theorem d_Mo_sectionOf_198 : decode b_Mo_sectionOf 198 = .ok (.putfield 57, 3) := by decide +kernel
theorem d_Mo_sectionOf_201 : decode b_Mo_sectionOf 201 = .ok (.iconst 0, 1) := by decide +kernel
theorem d_Mo_sectionOf_202 : decode b_Mo_sectionOf 202 = .ok (.istore_n 2, 1) := by decide +kernel
theorem d_Mo_sectionOf_203 : decode b_Mo_sectionOf 203 = .ok (.iload_n 2, 1) := by decide +kernel
theorem d_Mo_sectionOf_204 : decode b_Mo_sectionOf 204 = .ok (.aload_n 0, 1) := by decide +kernel
theorem d_Mo_sectionOf_205 : decode b_Mo_sectionOf 205 = .ok (.getfield 27, 3) := by decide +kernel
theorem d_Mo_sectionOf_208 : decode b_Mo_sectionOf 208 = .ok (.getfield 57, 3) := by decide +kernel
theorem d_Mo_sectionOf_211 : decode b_Mo_sectionOf 211 = .ok (.if_icmp .ge 23, 3) := by decide +kernel
theorem d_Mo_sectionOf_214 : decode b_Mo_sectionOf 214 = .ok (.aload_n 0, 1) := by decide +kernel
theorem d_Mo_sectionOf_215 : decode b_Mo_sectionOf 215 = .ok (.getfield 27, 3) := by decide +kernel
theorem d_Mo_sectionOf_218 : decode b_Mo_sectionOf 218 = .ok (.getfield 99, 3) := by decide +kernel
theorem d_Mo_sectionOf_221 : decode b_Mo_sectionOf 221 = .ok (.iload_n 2, 1) := by decide +kernel
theorem d_Mo_sectionOf_222 : decode b_Mo_sectionOf 222 = .ok (.aload_n 0, 1) := by decide +kernel
theorem d_Mo_sectionOf_223 : decode b_Mo_sectionOf 223 = .ok (.invokevirtual 103, 3) := by decide +kernel
theorem d_Mo_sectionOf_226 : decode b_Mo_sectionOf 226 = .ok (.i2l, 1) := by decide +kernel
theorem d_Mo_sectionOf_227 : decode b_Mo_sectionOf 227 = .ok (.lastore, 1) := by decide +kernel
theorem d_Mo_sectionOf_228 : decode b_Mo_sectionOf 228 = .ok (.iinc 2 1, 3) := by decide +kernel
theorem d_Mo_sectionOf_231 : decode b_Mo_sectionOf 231 = .ok (.goto (-28), 3) := by decide +kernel
theorem d_Mo_sectionOf_234 : decode b_Mo_sectionOf 234 = .ok (.goto 380, 3) := by decide +kernel
theorem d_Mo_sectionOf_237 : decode b_Mo_sectionOf 237 = .ok (.aload_n 0, 1) := by decide +kernel
theorem d_Mo_sectionOf_238 : decode b_Mo_sectionOf 238 = .ok (.getfield 27, 3) := by decide +kernel
theorem d_Mo_sectionOf_241 : decode b_Mo_sectionOf 241 = .ok (.aload_n 0, 1) := by decide +kernel
theorem d_Mo_sectionOf_242 : decode b_Mo_sectionOf 242 = .ok (.lconst 1, 1) := by decide +kernel
theorem d_Mo_sectionOf_243 : decode b_Mo_sectionOf 243 = .ok (.invokevirtual 47, 3) := by decide +kernel
theorem d_Mo_sectionOf_246 : decode b_Mo_sectionOf 246 = .ok (.putfield 63, 3) := by decide +kernel
theorem d_Mo_sectionOf_249 : decode b_Mo_sectionOf 249 = .ok (.aload_n 0, 1) := by decide +kernel
theorem d_Mo_sectionOf_250 : decode b_Mo_sectionOf 250 = .ok (.getfield 27, 3) := by decide +kernel
theorem d_Mo_sectionOf_253 : decode b_Mo_sectionOf 253 = .ok (.getfield 63, 3) := by decide +kernel
theorem d_Mo_sectionOf_256 : decode b_Mo_sectionOf 256 = .ok (.ifCond .ne 6, 3) := by decide +kernel
theorem d_Mo_sectionOf_259 : decode b_Mo_sectionOf 259 = .ok (.goto 355, 3) := by decide +kernel
theorem d_Mo_sectionOf_262 : decode b_Mo_sectionOf 262 = .ok (.aload_n 0, 1) := by decide +kernel
theorem d_Mo_sectionOf_263 : decode b_Mo_sectionOf 263 = .ok (.invokevirtual 37, 3) := by decide +kernel
theorem d_Mo_sectionOf_266 : decode b_Mo_sectionOf 266 = .ok (.istore_n 2, 1) := by decide +kernel
theorem d_Mo_sectionOf_267 : decode b_Mo_sectionOf 267 = .ok (.aload_n 0, 1) := by decide +kernel
theorem d_Mo_sectionOf_268 : decode b_Mo_sectionOf 268 = .ok (.iload_n 2, 1) := by decide +kernel
theorem d_Mo_sectionOf_269 : decode b_Mo_sectionOf 269 = .ok (.iconst 1, 1) := by decide +kernel
theorem d_Mo_sectionOf_270 : decode b_Mo_sectionOf 270 = .ok (.if_icmp .gt 7, 3) := by decide +kernel
