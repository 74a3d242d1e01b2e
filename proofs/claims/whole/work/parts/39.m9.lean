abbrev b_Mo_codeOf : ByteArray := prog_14_method_12_code
def y_Mo_codeOf : MethodName := ⟨R_Mo, "codeOf", "(I)V"⟩
theorem d_Mo_codeOf_0 : decode b_Mo_codeOf 0 = .ok (.aload_n 0, 1) := by decide +kernel
theorem d_Mo_codeOf_1 : decode b_Mo_codeOf 1 = .ok (.invokevirtual 41, 3) := by decide +kernel
theorem d_Mo_codeOf_4 : decode b_Mo_codeOf 4 = .ok (.lstore_n 2, 1) := by decide +kernel
theorem d_Mo_codeOf_5 : decode b_Mo_codeOf 5 = .ok (.aload_n 0, 1) := by decide +kernel
theorem d_Mo_codeOf_6 : decode b_Mo_codeOf 6 = .ok (.lload_n 2, 1) := by decide +kernel
theorem d_Mo_codeOf_7 : decode b_Mo_codeOf 7 = .ok (.aload_n 0, 1) := by decide +kernel
theorem d_Mo_codeOf_8 : decode b_Mo_codeOf 8 = .ok (.getfield 20, 3) := by decide +kernel
theorem d_Mo_codeOf_11 : decode b_Mo_codeOf 11 = .ok (.aload_n 0, 1) := by decide +kernel
theorem d_Mo_codeOf_12 : decode b_Mo_codeOf 12 = .ok (.getfield 17, 3) := by decide +kernel
theorem d_Mo_codeOf_15 : decode b_Mo_codeOf 15 = .ok (.isub, 1) := by decide +kernel
theorem d_Mo_codeOf_16 : decode b_Mo_codeOf 16 = .ok (.i2l, 1) := by decide +kernel
theorem d_Mo_codeOf_17 : decode b_Mo_codeOf 17 = .ok (.lcmp, 1) := by decide +kernel
theorem d_Mo_codeOf_18 : decode b_Mo_codeOf 18 = .ok (.ifCond .gt 7, 3) := by decide +kernel
theorem d_Mo_codeOf_21 : decode b_Mo_codeOf 21 = .ok (.iconst 1, 1) := by decide +kernel
theorem d_Mo_codeOf_22 : decode b_Mo_codeOf 22 = .ok (.goto 4, 3) := by decide +kernel
theorem d_Mo_codeOf_25 : decode b_Mo_codeOf 25 = .ok (.iconst 0, 1) := by decide +kernel
theorem d_Mo_codeOf_26 : decode b_Mo_codeOf 26 = .ok (.invokevirtual 23, 3) := by decide +kernel
theorem d_Mo_codeOf_29 : decode b_Mo_codeOf 29 = .ok (.aload_n 0, 1) := by decide +kernel
theorem d_Mo_codeOf_30 : decode b_Mo_codeOf 30 = .ok (.getfield 20, 3) := by decide +kernel
theorem d_Mo_codeOf_33 : decode b_Mo_codeOf 33 = .ok (.istore 4, 2) := by decide +kernel
theorem d_Mo_codeOf_35 : decode b_Mo_codeOf 35 = .ok (.aload_n 0, 1) := by decide +kernel
theorem d_Mo_codeOf_36 : decode b_Mo_codeOf 36 = .ok (.getfield 17, 3) := by decide +kernel
theorem d_Mo_codeOf_39 : decode b_Mo_codeOf 39 = .ok (.lload_n 2, 1) := by decide +kernel
theorem d_Mo_codeOf_40 : decode b_Mo_codeOf 40 = .ok (.l2i, 1) := by decide +kernel
theorem d_Mo_codeOf_41 : decode b_Mo_codeOf 41 = .ok (.iadd, 1) := by decide +kernel
theorem d_Mo_codeOf_42 : decode b_Mo_codeOf 42 = .ok (.istore 5, 2) := by decide +kernel
theorem d_Mo_codeOf_44 : decode b_Mo_codeOf 44 = .ok (.aload_n 0, 1) := by decide +kernel
theorem d_Mo_codeOf_45 : decode b_Mo_codeOf 45 = .ok (.iload 5, 2) := by decide +kernel
theorem d_Mo_codeOf_47 : decode b_Mo_codeOf 47 = .ok (.putfield 20, 3) := by decide +kernel
theorem d_Mo_codeOf_50 : decode b_Mo_codeOf 50 = .ok (.aload_n 0, 1) := by decide +kernel
theorem d_Mo_codeOf_51 : decode b_Mo_codeOf 51 = .ok (.ldc2_w 156, 3) := by decide +kernel
theorem d_Mo_codeOf_54 : decode b_Mo_codeOf 54 = .ok (.invokevirtual 47, 3) := by decide +kernel
theorem d_Mo_codeOf_57 : decode b_Mo_codeOf 57 = .ok (.istore 6, 2) := by decide +kernel
theorem d_Mo_codeOf_59 : decode b_Mo_codeOf 59 = .ok (.aload_n 0, 1) := by decide +kernel
theorem d_Mo_codeOf_60 : decode b_Mo_codeOf 60 = .ok (.getfield 27, 3) := by decide +kernel
theorem d_Mo_codeOf_63 : decode b_Mo_codeOf 63 = .ok (.getfield 158, 3) := by decide +kernel
theorem d_Mo_codeOf_66 : decode b_Mo_codeOf 66 = .ok (.iload_n 1, 1) := by decide +kernel
theorem d_Mo_codeOf_67 : decode b_Mo_codeOf 67 = .ok (.iconst 0, 1) := by decide +kernel
theorem d_Mo_codeOf_68 : decode b_Mo_codeOf 68 = .ok (.iastore, 1) := by decide +kernel
theorem d_Mo_codeOf_69 : decode b_Mo_codeOf 69 = .ok (.iconst 0, 1) := by decide +kernel
theorem d_Mo_codeOf_70 : decode b_Mo_codeOf 70 = .ok (.istore 7, 2) := by decide +kernel
theorem d_Mo_codeOf_72 : decode b_Mo_codeOf 72 = .ok (.iload 7, 2) := by decide +kernel
theorem d_Mo_codeOf_74 : decode b_Mo_codeOf 74 = .ok (.iload 6, 2) := by decide +kernel
theorem d_Mo_codeOf_76 : decode b_Mo_codeOf 76 = .ok (.if_icmp .ge 104, 3) := by decide +kernel
theorem d_Mo_codeOf_79 : decode b_Mo_codeOf 79 = .ok (.aload_n 0, 1) := by decide +kernel
theorem d_Mo_codeOf_80 : decode b_Mo_codeOf 80 = .ok (.ldc2_w 156, 3) := by decide +kernel
theorem d_Mo_codeOf_83 : decode b_Mo_codeOf 83 = .ok (.invokevirtual 47, 3) := by decide +kernel
theorem d_Mo_codeOf_86 : decode b_Mo_codeOf 86 = .ok (.istore 8, 2) := by decide +kernel
theorem d_Mo_codeOf_88 : decode b_Mo_codeOf 88 = .ok (.aload_n 0, 1) := by decide +kernel
theorem d_Mo_codeOf_89 : decode b_Mo_codeOf 89 = .ok (.aload_n 0, 1) := by decide +kernel
theorem d_Mo_codeOf_90 : decode b_Mo_codeOf 90 = .ok (.getfield 27, 3) := by decide +kernel
theorem d_Mo_codeOf_93 : decode b_Mo_codeOf 93 = .ok (.getfield 158, 3) := by decide +kernel
theorem d_Mo_codeOf_96 : decode b_Mo_codeOf 96 = .ok (.iload_n 1, 1) := by decide +kernel
theorem d_Mo_codeOf_97 : decode b_Mo_codeOf 97 = .ok (.iaload, 1) := by decide +kernel
theorem d_Mo_codeOf_98 : decode b_Mo_codeOf 98 = .ok (.iload 8, 2) := by decide +kernel
theorem d_Mo_codeOf_100 : decode b_Mo_codeOf 100 = .ok (.iadd, 1) := by decide +kernel
theorem d_Mo_codeOf_101 : decode b_Mo_codeOf 101 = .ok (.bipush 60, 2) := by decide +kernel
theorem d_Mo_codeOf_103 : decode b_Mo_codeOf 103 = .ok (.if_icmp .gt 7, 3) := by decide +kernel
theorem d_Mo_codeOf_106 : decode b_Mo_codeOf 106 = .ok (.iconst 1, 1) := by decide +kernel
theorem d_Mo_codeOf_107 : decode b_Mo_codeOf 107 = .ok (.goto 4, 3) := by decide +kernel
theorem d_Mo_codeOf_110 : decode b_Mo_codeOf 110 = .ok (.iconst 0, 1) := by decide +kernel
theorem d_Mo_codeOf_111 : decode b_Mo_codeOf 111 = .ok (.invokevirtual 23, 3) := by decide +kernel
theorem d_Mo_codeOf_114 : decode b_Mo_codeOf 114 = .ok (.aload_n 0, 1) := by decide +kernel
theorem d_Mo_codeOf_115 : decode b_Mo_codeOf 115 = .ok (.invokevirtual 91, 3) := by decide +kernel
theorem d_Mo_codeOf_118 : decode b_Mo_codeOf 118 = .ok (.istore 9, 2) := by decide +kernel
theorem d_Mo_codeOf_120 : decode b_Mo_codeOf 120 = .ok (.iconst 0, 1) := by decide +kernel
theorem d_Mo_codeOf_121 : decode b_Mo_codeOf 121 = .ok (.istore 10, 2) := by decide +kernel
theorem d_Mo_codeOf_123 : decode b_Mo_codeOf 123 = .ok (.iload 10, 2) := by decide +kernel
theorem d_Mo_codeOf_125 : decode b_Mo_codeOf 125 = .ok (.iload 8, 2) := by decide +kernel
theorem d_Mo_codeOf_127 : decode b_Mo_codeOf 127 = .ok (.if_icmp .ge 33, 3) := by decide +kernel
theorem d_Mo_codeOf_130 : decode b_Mo_codeOf 130 = .ok (.aload_n 0, 1) := by decide +kernel
theorem d_Mo_codeOf_131 : decode b_Mo_codeOf 131 = .ok (.getfield 27, 3) := by decide +kernel
theorem d_Mo_codeOf_134 : decode b_Mo_codeOf 134 = .ok (.getfield 161, 3) := by decide +kernel
theorem d_Mo_codeOf_137 : decode b_Mo_codeOf 137 = .ok (.iload_n 1, 1) := by decide +kernel
theorem d_Mo_codeOf_138 : decode b_Mo_codeOf 138 = .ok (.aaload, 1) := by decide +kernel
theorem d_Mo_codeOf_139 : decode b_Mo_codeOf 139 = .ok (.aload_n 0, 1) := by decide +kernel
theorem d_Mo_codeOf_140 : decode b_Mo_codeOf 140 = .ok (.getfield 27, 3) := by decide +kernel
theorem d_Mo_codeOf_143 : decode b_Mo_codeOf 143 = .ok (.getfield 158, 3) := by decide +kernel
theorem d_Mo_codeOf_146 : decode b_Mo_codeOf 146 = .ok (.iload_n 1, 1) := by decide +kernel
theorem d_Mo_codeOf_147 : decode b_Mo_codeOf 147 = .ok (.iaload, 1) := by decide +kernel
theorem d_Mo_codeOf_148 : decode b_Mo_codeOf 148 = .ok (.iload 10, 2) := by decide +kernel
theorem d_Mo_codeOf_150 : decode b_Mo_codeOf 150 = .ok (.iadd, 1) := by decide +kernel
theorem d_Mo_codeOf_151 : decode b_Mo_codeOf 151 = .ok (.iload 9, 2) := by decide +kernel
theorem d_Mo_codeOf_153 : decode b_Mo_codeOf 153 = .ok (.iastore, 1) := by decide +kernel
theorem d_Mo_codeOf_154 : decode b_Mo_codeOf 154 = .ok (.iinc 10 1, 3) := by decide +kernel
theorem d_Mo_codeOf_157 : decode b_Mo_codeOf 157 = .ok (.goto (-34), 3) := by decide +kernel
theorem d_Mo_codeOf_160 : decode b_Mo_codeOf 160 = .ok (.aload_n 0, 1) := by decide +kernel
theorem d_Mo_codeOf_161 : decode b_Mo_codeOf 161 = .ok (.getfield 27, 3) := by decide +kernel
theorem d_Mo_codeOf_164 : decode b_Mo_codeOf 164 = .ok (.getfield 158, 3) := by decide +kernel
theorem d_Mo_codeOf_167 : decode b_Mo_codeOf 167 = .ok (.iload_n 1, 1) := by decide +kernel
theorem d_Mo_codeOf_168 : decode b_Mo_codeOf 168 = .ok (.dup2, 1) := by decide +kernel
theorem d_Mo_codeOf_169 : decode b_Mo_codeOf 169 = .ok (.iaload, 1) := by decide +kernel
theorem d_Mo_codeOf_170 : decode b_Mo_codeOf 170 = .ok (.iload 8, 2) := by decide +kernel
theorem d_Mo_codeOf_172 : decode b_Mo_codeOf 172 = .ok (.iadd, 1) := by decide +kernel
theorem d_Mo_codeOf_173 : decode b_Mo_codeOf 173 = .ok (.iastore, 1) := by decide +kernel
theorem d_Mo_codeOf_174 : decode b_Mo_codeOf 174 = .ok (.iinc 7 1, 3) := by decide +kernel
theorem d_Mo_codeOf_177 : decode b_Mo_codeOf 177 = .ok (.goto (-105), 3) := by decide +kernel
theorem d_Mo_codeOf_180 : decode b_Mo_codeOf 180 = .ok (.aload_n 0, 1) := by decide +kernel
theorem d_Mo_codeOf_181 : decode b_Mo_codeOf 181 = .ok (.getfield 27, 3) := by decide +kernel
theorem d_Mo_codeOf_184 : decode b_Mo_codeOf 184 = .ok (.getfield 164, 3) := by decide +kernel
theorem d_Mo_codeOf_187 : decode b_Mo_codeOf 187 = .ok (.iload_n 1, 1) := by decide +kernel
theorem d_Mo_codeOf_188 : decode b_Mo_codeOf 188 = .ok (.aload_n 0, 1) := by decide +kernel
theorem d_Mo_codeOf_189 : decode b_Mo_codeOf 189 = .ok (.getfield 17, 3) := by decide +kernel
theorem d_Mo_codeOf_192 : decode b_Mo_codeOf 192 = .ok (.iastore, 1) := by decide +kernel
theorem d_Mo_codeOf_193 : decode b_Mo_codeOf 193 = .ok (.aload_n 0, 1) := by decide +kernel
theorem d_Mo_codeOf_194 : decode b_Mo_codeOf 194 = .ok (.getfield 27, 3) := by decide +kernel
theorem d_Mo_codeOf_197 : decode b_Mo_codeOf 197 = .ok (.getfield 167, 3) := by decide +kernel
theorem d_Mo_codeOf_200 : decode b_Mo_codeOf 200 = .ok (.iload_n 1, 1) := by decide +kernel
theorem d_Mo_codeOf_201 : decode b_Mo_codeOf 201 = .ok (.iload 5, 2) := by decide +kernel
theorem d_Mo_codeOf_203 : decode b_Mo_codeOf 203 = .ok (.iastore, 1) := by decide +kernel
theorem d_Mo_codeOf_204 : decode b_Mo_codeOf 204 = .ok (.iconst 0, 1) := by decide +kernel
theorem d_Mo_codeOf_205 : decode b_Mo_codeOf 205 = .ok (.istore 7, 2) := by decide +kernel
theorem d_Mo_codeOf_207 : decode b_Mo_codeOf 207 = .ok (.aload_n 0, 1) := by decide +kernel
theorem d_Mo_codeOf_208 : decode b_Mo_codeOf 208 = .ok (.getfield 17, 3) := by decide +kernel
theorem d_Mo_codeOf_211 : decode b_Mo_codeOf 211 = .ok (.istore 8, 2) := by decide +kernel
theorem d_Mo_codeOf_213 : decode b_Mo_codeOf 213 = .ok (.aload_n 0, 1) := by decide +kernel
theorem d_Mo_codeOf_214 : decode b_Mo_codeOf 214 = .ok (.invokevirtual 37, 3) := by decide +kernel
theorem d_Mo_codeOf_217 : decode b_Mo_codeOf 217 = .ok (.istore 9, 2) := by decide +kernel
theorem d_Mo_codeOf_219 : decode b_Mo_codeOf 219 = .ok (.iload 9, 2) := by decide +kernel
theorem d_Mo_codeOf_221 : decode b_Mo_codeOf 221 = .ok (.iconst 2, 1) := by decide +kernel
theorem d_Mo_codeOf_222 : decode b_Mo_codeOf 222 = .ok (.if_icmp .lt 87, 3) := by decide +kernel
theorem d_Mo_codeOf_225 : decode b_Mo_codeOf 225 = .ok (.iload 9, 2) := by decide +kernel
theorem d_Mo_codeOf_227 : decode b_Mo_codeOf 227 = .ok (.iconst 4, 1) := by decide +kernel
theorem d_Mo_codeOf_228 : decode b_Mo_codeOf 228 = .ok (.if_icmp .gt 81, 3) := by decide +kernel
theorem d_Mo_codeOf_231 : decode b_Mo_codeOf 231 = .ok (.aload_n 0, 1) := by decide +kernel
theorem d_Mo_codeOf_232 : decode b_Mo_codeOf 232 = .ok (.invokevirtual 37, 3) := by decide +kernel
theorem d_Mo_codeOf_235 : decode b_Mo_codeOf 235 = .ok (.istore 10, 2) := by decide +kernel
theorem d_Mo_codeOf_237 : decode b_Mo_codeOf 237 = .ok (.aload_n 0, 1) := by decide +kernel
theorem d_Mo_codeOf_238 : decode b_Mo_codeOf 238 = .ok (.iload 10, 2) := by decide +kernel
theorem d_Mo_codeOf_240 : decode b_Mo_codeOf 240 = .ok (.bipush 64, 2) := by decide +kernel
theorem d_Mo_codeOf_242 : decode b_Mo_codeOf 242 = .ok (.if_icmp .eq 17, 3) := by decide +kernel
theorem d_Mo_codeOf_245 : decode b_Mo_codeOf 245 = .ok (.iload 10, 2) := by decide +kernel
theorem d_Mo_codeOf_247 : decode b_Mo_codeOf 247 = .ok (.bipush 127, 2) := by decide +kernel
theorem d_Mo_codeOf_249 : decode b_Mo_codeOf 249 = .ok (.if_icmp .eq 10, 3) := by decide +kernel
theorem d_Mo_codeOf_252 : decode b_Mo_codeOf 252 = .ok (.iload 10, 2) := by decide +kernel
theorem d_Mo_codeOf_254 : decode b_Mo_codeOf 254 = .ok (.bipush 126, 2) := by decide +kernel
theorem d_Mo_codeOf_256 : decode b_Mo_codeOf 256 = .ok (.if_icmp .ne 7, 3) := by decide +kernel
theorem d_Mo_codeOf_259 : decode b_Mo_codeOf 259 = .ok (.iconst 1, 1) := by decide +kernel
theorem d_Mo_codeOf_260 : decode b_Mo_codeOf 260 = .ok (.goto 4, 3) := by decide +kernel
theorem d_Mo_codeOf_263 : decode b_Mo_codeOf 263 = .ok (.iconst 0, 1) := by decide +kernel
theorem d_Mo_codeOf_264 : decode b_Mo_codeOf 264 = .ok (.invokevirtual 23, 3) := by decide +kernel
theorem d_Mo_codeOf_267 : decode b_Mo_codeOf 267 = .ok (.aload_n 0, 1) := by decide +kernel
theorem d_Mo_codeOf_268 : decode b_Mo_codeOf 268 = .ok (.iload 7, 2) := by decide +kernel
theorem d_Mo_codeOf_270 : decode b_Mo_codeOf 270 = .ok (.bipush 100, 2) := by decide +kernel
theorem d_Mo_codeOf_272 : decode b_Mo_codeOf 272 = .ok (.if_icmp .ge 7, 3) := by decide +kernel
theorem d_Mo_codeOf_275 : decode b_Mo_codeOf 275 = .ok (.iconst 1, 1) := by decide +kernel
theorem d_Mo_codeOf_276 : decode b_Mo_codeOf 276 = .ok (.goto 4, 3) := by decide +kernel
theorem d_Mo_codeOf_279 : decode b_Mo_codeOf 279 = .ok (.iconst 0, 1) := by decide +kernel
theorem d_Mo_codeOf_280 : decode b_Mo_codeOf 280 = .ok (.invokevirtual 23, 3) := by decide +kernel
theorem d_Mo_codeOf_283 : decode b_Mo_codeOf 283 = .ok (.aload_n 0, 1) := by decide +kernel
theorem d_Mo_codeOf_284 : decode b_Mo_codeOf 284 = .ok (.getfield 170, 3) := by decide +kernel
theorem d_Mo_codeOf_287 : decode b_Mo_codeOf 287 = .ok (.iload 7, 2) := by decide +kernel
theorem d_Mo_codeOf_289 : decode b_Mo_codeOf 289 = .ok (.iload 8, 2) := by decide +kernel
theorem d_Mo_codeOf_291 : decode b_Mo_codeOf 291 = .ok (.iastore, 1) := by decide +kernel
theorem d_Mo_codeOf_292 : decode b_Mo_codeOf 292 = .ok (.aload_n 0, 1) := by decide +kernel
theorem d_Mo_codeOf_293 : decode b_Mo_codeOf 293 = .ok (.getfield 27, 3) := by decide +kernel
theorem d_Mo_codeOf_296 : decode b_Mo_codeOf 296 = .ok (.getfield 173, 3) := by decide +kernel
theorem d_Mo_codeOf_299 : decode b_Mo_codeOf 299 = .ok (.iload 8, 2) := by decide +kernel
theorem d_Mo_codeOf_301 : decode b_Mo_codeOf 301 = .ok (.iconst (-1), 1) := by decide +kernel
theorem d_Mo_codeOf_302 : decode b_Mo_codeOf 302 = .ok (.iastore, 1) := by decide +kernel
theorem d_Mo_codeOf_303 : decode b_Mo_codeOf 303 = .ok (.iinc 7 1, 3) := by decide +kernel
theorem d_Mo_codeOf_306 : decode b_Mo_codeOf 306 = .ok (.goto 152, 3) := by decide +kernel
theorem d_Mo_codeOf_309 : decode b_Mo_codeOf 309 = .ok (.iload 9, 2) := by decide +kernel
theorem d_Mo_codeOf_311 : decode b_Mo_codeOf 311 = .ok (.iconst 5, 1) := by decide +kernel
theorem d_Mo_codeOf_312 : decode b_Mo_codeOf 312 = .ok (.if_icmp .ne 80, 3) := by decide +kernel
theorem d_Mo_codeOf_315 : decode b_Mo_codeOf 315 = .ok (.aload_n 0, 1) := by decide +kernel
theorem d_Mo_codeOf_316 : decode b_Mo_codeOf 316 = .ok (.iload 7, 2) := by decide +kernel
theorem d_Mo_codeOf_318 : decode b_Mo_codeOf 318 = .ok (.ifCond .le 48, 3) := by decide +kernel
theorem d_Mo_codeOf_321 : decode b_Mo_codeOf 321 = .ok (.aload_n 0, 1) := by decide +kernel
theorem d_Mo_codeOf_322 : decode b_Mo_codeOf 322 = .ok (.getfield 27, 3) := by decide +kernel
theorem d_Mo_codeOf_325 : decode b_Mo_codeOf 325 = .ok (.getfield 31, 3) := by decide +kernel
theorem d_Mo_codeOf_328 : decode b_Mo_codeOf 328 = .ok (.aload_n 0, 1) := by decide +kernel
theorem d_Mo_codeOf_329 : decode b_Mo_codeOf 329 = .ok (.getfield 170, 3) := by decide +kernel
theorem d_Mo_codeOf_332 : decode b_Mo_codeOf 332 = .ok (.iload 7, 2) := by decide +kernel
theorem d_Mo_codeOf_334 : decode b_Mo_codeOf 334 = .ok (.iconst 1, 1) := by decide +kernel
theorem d_Mo_codeOf_335 : decode b_Mo_codeOf 335 = .ok (.isub, 1) := by decide +kernel
theorem d_Mo_codeOf_336 : decode b_Mo_codeOf 336 = .ok (.iaload, 1) := by decide +kernel
theorem d_Mo_codeOf_337 : decode b_Mo_codeOf 337 = .ok (.baload, 1) := by decide +kernel
theorem d_Mo_codeOf_338 : decode b_Mo_codeOf 338 = .ok (.iconst 4, 1) := by decide +kernel
theorem d_Mo_codeOf_339 : decode b_Mo_codeOf 339 = .ok (.if_icmp .ne 27, 3) := by decide +kernel
theorem d_Mo_codeOf_342 : decode b_Mo_codeOf 342 = .ok (.aload_n 0, 1) := by decide +kernel
theorem d_Mo_codeOf_343 : decode b_Mo_codeOf 343 = .ok (.getfield 27, 3) := by decide +kernel
theorem d_Mo_codeOf_346 : decode b_Mo_codeOf 346 = .ok (.getfield 173, 3) := by decide +kernel
theorem d_Mo_codeOf_349 : decode b_Mo_codeOf 349 = .ok (.aload_n 0, 1) := by decide +kernel
theorem d_Mo_codeOf_350 : decode b_Mo_codeOf 350 = .ok (.getfield 170, 3) := by decide +kernel
theorem d_Mo_codeOf_353 : decode b_Mo_codeOf 353 = .ok (.iload 7, 2) := by decide +kernel
theorem d_Mo_codeOf_355 : decode b_Mo_codeOf 355 = .ok (.iconst 1, 1) := by decide +kernel
theorem d_Mo_codeOf_356 : decode b_Mo_codeOf 356 = .ok (.isub, 1) := by decide +kernel
theorem d_Mo_codeOf_357 : decode b_Mo_codeOf 357 = .ok (.iaload, 1) := by decide +kernel
theorem d_Mo_codeOf_358 : decode b_Mo_codeOf 358 = .ok (.iaload, 1) := by decide +kernel
theorem d_Mo_codeOf_359 : decode b_Mo_codeOf 359 = .ok (.ifCond .ge 7, 3) := by decide +kernel
theorem d_Mo_codeOf_362 : decode b_Mo_codeOf 362 = .ok (.iconst 1, 1) := by decide +kernel
theorem d_Mo_codeOf_363 : decode b_Mo_codeOf 363 = .ok (.goto 4, 3) := by decide +kernel
theorem d_Mo_codeOf_366 : decode b_Mo_codeOf 366 = .ok (.iconst 0, 1) := by decide +kernel
theorem d_Mo_codeOf_367 : decode b_Mo_codeOf 367 = .ok (.invokevirtual 23, 3) := by decide +kernel
theorem d_Mo_codeOf_370 : decode b_Mo_codeOf 370 = .ok (.aload_n 0, 1) := by decide +kernel
theorem d_Mo_codeOf_371 : decode b_Mo_codeOf 371 = .ok (.getfield 27, 3) := by decide +kernel
theorem d_Mo_codeOf_374 : decode b_Mo_codeOf 374 = .ok (.getfield 173, 3) := by decide +kernel
theorem d_Mo_codeOf_377 : decode b_Mo_codeOf 377 = .ok (.aload_n 0, 1) := by decide +kernel
theorem d_Mo_codeOf_378 : decode b_Mo_codeOf 378 = .ok (.getfield 170, 3) := by decide +kernel
theorem d_Mo_codeOf_381 : decode b_Mo_codeOf 381 = .ok (.iload 7, 2) := by decide +kernel
theorem d_Mo_codeOf_383 : decode b_Mo_codeOf 383 = .ok (.iconst 1, 1) := by decide +kernel
theorem d_Mo_codeOf_384 : decode b_Mo_codeOf 384 = .ok (.isub, 1) := by decide +kernel
theorem d_Mo_codeOf_385 : decode b_Mo_codeOf 385 = .ok (.iaload, 1) := by decide +kernel
theorem d_Mo_codeOf_386 : decode b_Mo_codeOf 386 = .ok (.iload 8, 2) := by decide +kernel
theorem d_Mo_codeOf_388 : decode b_Mo_codeOf 388 = .ok (.iastore, 1) := by decide +kernel
theorem d_Mo_codeOf_389 : decode b_Mo_codeOf 389 = .ok (.goto 69, 3) := by decide +kernel
theorem d_Mo_codeOf_392 : decode b_Mo_codeOf 392 = .ok (.iload 9, 2) := by decide +kernel
theorem d_Mo_codeOf_394 : decode b_Mo_codeOf 394 = .ok (.bipush 11, 2) := by decide +kernel
theorem d_Mo_codeOf_396 : decode b_Mo_codeOf 396 = .ok (.if_icmp .ne 56, 3) := by decide +kernel
theorem d_Mo_codeOf_399 : decode b_Mo_codeOf 399 = .ok (.iload 7, 2) := by decide +kernel
theorem d_Mo_codeOf_401 : decode b_Mo_codeOf 401 = .ok (.ifCond .ne 28, 3) := by decide +kernel
theorem d_Mo_codeOf_404 : decode b_Mo_codeOf 404 = .ok (.aload_n 0, 1) := by decide +kernel
theorem d_Mo_codeOf_405 : decode b_Mo_codeOf 405 = .ok (.aload_n 0, 1) := by decide +kernel
theorem d_Mo_codeOf_406 : decode b_Mo_codeOf 406 = .ok (.getfield 17, 3) := by decide +kernel
theorem d_Mo_codeOf_409 : decode b_Mo_codeOf 409 = .ok (.iload 5, 2) := by decide +kernel
theorem d_Mo_codeOf_411 : decode b_Mo_codeOf 411 = .ok (.if_icmp .ne 7, 3) := by decide +kernel
theorem d_Mo_codeOf_414 : decode b_Mo_codeOf 414 = .ok (.iconst 1, 1) := by decide +kernel
theorem d_Mo_codeOf_415 : decode b_Mo_codeOf 415 = .ok (.goto 4, 3) := by decide +kernel
theorem d_Mo_codeOf_418 : decode b_Mo_codeOf 418 = .ok (.iconst 0, 1) := by decide +kernel
theorem d_Mo_codeOf_419 : decode b_Mo_codeOf 419 = .ok (.invokevirtual 23, 3) := by decide +kernel
theorem d_Mo_codeOf_422 : decode b_Mo_codeOf 422 = .ok (.aload_n 0, 1) := by decide +kernel
theorem d_Mo_codeOf_423 : decode b_Mo_codeOf 423 = .ok (.iload 4, 2) := by decide +kernel
theorem d_Mo_codeOf_425 : decode b_Mo_codeOf 425 = .ok (.putfield 20, 3) := by decide +kernel
theorem d_Mo_codeOf_428 : decode b_Mo_codeOf 428 = .ok (.return_, 1) := by decide +kernel
theorem d_Mo_codeOf_429 : decode b_Mo_codeOf 429 = .ok (.iinc 7 (-1), 3) := by decide +kernel
theorem d_Mo_codeOf_432 : decode b_Mo_codeOf 432 = .ok (.aload_n 0, 1) := by decide +kernel
theorem d_Mo_codeOf_433 : decode b_Mo_codeOf 433 = .ok (.getfield 27, 3) := by decide +kernel
theorem d_Mo_codeOf_436 : decode b_Mo_codeOf 436 = .ok (.getfield 176, 3) := by decide +kernel
theorem d_Mo_codeOf_439 : decode b_Mo_codeOf 439 = .ok (.aload_n 0, 1) := by decide +kernel
theorem d_Mo_codeOf_440 : decode b_Mo_codeOf 440 = .ok (.getfield 170, 3) := by decide +kernel
theorem d_Mo_codeOf_443 : decode b_Mo_codeOf 443 = .ok (.iload 7, 2) := by decide +kernel
theorem d_Mo_codeOf_445 : decode b_Mo_codeOf 445 = .ok (.iaload, 1) := by decide +kernel
theorem d_Mo_codeOf_446 : decode b_Mo_codeOf 446 = .ok (.iload 8, 2) := by decide +kernel
theorem d_Mo_codeOf_448 : decode b_Mo_codeOf 448 = .ok (.iastore, 1) := by decide +kernel
theorem d_Mo_codeOf_449 : decode b_Mo_codeOf 449 = .ok (.goto 9, 3) := by decide +kernel
theorem d_Mo_codeOf_452 : decode b_Mo_codeOf 452 = .ok (.aload_n 0, 1) := by decide +kernel
theorem d_Mo_codeOf_453 : decode b_Mo_codeOf 453 = .ok (.iload 9, 2) := by decide +kernel
theorem d_Mo_codeOf_455 : decode b_Mo_codeOf 455 = .ok (.invokevirtual 179, 3) := by decide +kernel
theorem d_Mo_codeOf_458 : decode b_Mo_codeOf 458 = .ok (.goto (-251), 3) := by decide +kernel
theorem m_1465 : Cond.constantLong R_Mo 156 60 ∈ lw_good := lw_in (List.mem_append_right _ (List.mem_of_getElem? (i := 1465) (by decide +kernel))) (by decide +kernel)
theorem m_1466 : Cond.methodLink R_Mo 179 y_Mo_immediates ∈ lw_good := lw_in (List.mem_append_right _ (List.mem_of_getElem? (i := 1466) (by decide +kernel))) (by decide +kernel)
theorem m_1468 : Cond.instanceMethod y_Mo_immediates ∈ lw_good := lw_in (List.mem_append_right _ (List.mem_of_getElem? (i := 1468) (by decide +kernel))) (by decide +kernel)
theorem ms_Mo_immediates : Cond.selects R_Mo y_Mo_immediates y_Mo_immediates ∈ lw_good := lw_in (by decide +kernel) (by decide +kernel)
theorem m_1469 : Cond.code y_Mo_immediates b_Mo_immediates 4 none ∈ lw_good := lw_in (List.mem_append_right _ (List.mem_of_getElem? (i := 1469) (by decide +kernel))) (by decide +kernel)
theorem n_1183 : Cond.fieldLinkNest R_Mo 158 "WaferRunnerModel$Module" "localCount" "[I" "WaferRunnerModel" ∈ lw_nws := lw_nin (List.mem_of_getElem? (i := 1183) (by decide +kernel)) (by decide +kernel)
theorem n_1185 : Cond.fieldLinkNest R_Mo 161 "WaferRunnerModel$Module" "localTypes" "[[I" "WaferRunnerModel" ∈ lw_nws := lw_nin (List.mem_of_getElem? (i := 1185) (by decide +kernel)) (by decide +kernel)
theorem n_1179 : Cond.fieldLinkNest R_Mo 164 "WaferRunnerModel$Module" "codeAt" "[I" "WaferRunnerModel" ∈ lw_nws := lw_nin (List.mem_of_getElem? (i := 1179) (by decide +kernel)) (by decide +kernel)
theorem n_1181 : Cond.fieldLinkNest R_Mo 167 "WaferRunnerModel$Module" "codeEnd" "[I" "WaferRunnerModel" ∈ lw_nws := lw_nin (List.mem_of_getElem? (i := 1181) (by decide +kernel)) (by decide +kernel)
theorem n_1211 : Cond.fieldLinkNest R_Mo 173 "WaferRunnerModel$Module" "elseOf" "[I" "WaferRunnerModel" ∈ lw_nws := lw_nin (List.mem_of_getElem? (i := 1211) (by decide +kernel)) (by decide +kernel)
theorem n_1209 : Cond.fieldLinkNest R_Mo 176 "WaferRunnerModel$Module" "endOf" "[I" "WaferRunnerModel" ∈ lw_nws := lw_nin (List.mem_of_getElem? (i := 1209) (by decide +kernel)) (by decide +kernel)
