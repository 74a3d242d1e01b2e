theorem d_Mo_validModule_222 : decode b_Mo_validModule 222 = .ok (.getfield 27, 3) := by decide +kernel
theorem d_Mo_validModule_225 : decode b_Mo_validModule 225 = .ok (.getfield 63, 3) := by decide +kernel
theorem d_Mo_validModule_228 : decode b_Mo_validModule 228 = .ok (.goto 10, 3) := by decide +kernel
theorem d_Mo_validModule_231 : decode b_Mo_validModule 231 = .ok (.aload_n 0, 1) := by decide +kernel
theorem d_Mo_validModule_232 : decode b_Mo_validModule 232 = .ok (.getfield 27, 3) := by decide +kernel
theorem d_Mo_validModule_235 : decode b_Mo_validModule 235 = .ok (.getfield 66, 3) := by decide +kernel
theorem d_Mo_validModule_238 : decode b_Mo_validModule 238 = .ok (.i2l, 1) := by decide +kernel
theorem d_Mo_validModule_239 : decode b_Mo_validModule 239 = .ok (.lcmp, 1) := by decide +kernel
theorem d_Mo_validModule_240 : decode b_Mo_validModule 240 = .ok (.ifCond .ge 7, 3) := by decide +kernel
theorem d_Mo_validModule_243 : decode b_Mo_validModule 243 = .ok (.iconst 1, 1) := by decide +kernel
theorem d_Mo_validModule_244 : decode b_Mo_validModule 244 = .ok (.goto 4, 3) := by decide +kernel
theorem d_Mo_validModule_247 : decode b_Mo_validModule 247 = .ok (.iconst 0, 1) := by decide +kernel
theorem d_Mo_validModule_248 : decode b_Mo_validModule 248 = .ok (.invokevirtual 186, 3) := by decide +kernel
theorem d_Mo_validModule_251 : decode b_Mo_validModule 251 = .ok (.iconst 0, 1) := by decide +kernel
theorem d_Mo_validModule_252 : decode b_Mo_validModule 252 = .ok (.istore_n 2, 1) := by decide +kernel
theorem d_Mo_validModule_253 : decode b_Mo_validModule 253 = .ok (.iload_n 2, 1) := by decide +kernel
theorem d_Mo_validModule_254 : decode b_Mo_validModule 254 = .ok (.iload_n 1, 1) := by decide +kernel
theorem d_Mo_validModule_255 : decode b_Mo_validModule 255 = .ok (.if_icmp .ge 51, 3) := by decide +kernel
theorem d_Mo_validModule_258 : decode b_Mo_validModule 258 = .ok (.aload_n 0, 1) := by decide +kernel
theorem d_Mo_validModule_259 : decode b_Mo_validModule 259 = .ok (.aload_n 0, 1) := by decide +kernel
theorem d_Mo_validModule_260 : decode b_Mo_validModule 260 = .ok (.iload_n 2, 1) := by decide +kernel
theorem d_Mo_validModule_261 : decode b_Mo_validModule 261 = .ok (.aload_n 0, 1) := by decide +kernel
theorem d_Mo_validModule_262 : decode b_Mo_validModule 262 = .ok (.getfield 27, 3) := by decide +kernel
theorem d_Mo_validModule_265 : decode b_Mo_validModule 265 = .ok (.getfield 31, 3) := by decide +kernel
theorem d_Mo_validModule_268 : decode b_Mo_validModule 268 = .ok (.aload_n 0, 1) := by decide +kernel
theorem d_Mo_validModule_269 : decode b_Mo_validModule 269 = .ok (.getfield 27, 3) := by decide +kernel
theorem d_Mo_validModule_272 : decode b_Mo_validModule 272 = .ok (.getfield 127, 3) := by decide +kernel
theorem d_Mo_validModule_275 : decode b_Mo_validModule 275 = .ok (.iload_n 1, 1) := by decide +kernel
theorem d_Mo_validModule_276 : decode b_Mo_validModule 276 = .ok (.iaload, 1) := by decide +kernel
theorem d_Mo_validModule_277 : decode b_Mo_validModule 277 = .ok (.aload_n 0, 1) := by decide +kernel
theorem d_Mo_validModule_278 : decode b_Mo_validModule 278 = .ok (.getfield 27, 3) := by decide +kernel
theorem d_Mo_validModule_281 : decode b_Mo_validModule 281 = .ok (.getfield 124, 3) := by decide +kernel
theorem d_Mo_validModule_284 : decode b_Mo_validModule 284 = .ok (.iload_n 1, 1) := by decide +kernel
theorem d_Mo_validModule_285 : decode b_Mo_validModule 285 = .ok (.iaload, 1) := by decide +kernel
theorem d_Mo_validModule_286 : decode b_Mo_validModule 286 = .ok (.invokevirtual 189, 3) := by decide +kernel
theorem d_Mo_validModule_289 : decode b_Mo_validModule 289 = .ok (.ifCond .ne 7, 3) := by decide +kernel
theorem d_Mo_validModule_292 : decode b_Mo_validModule 292 = .ok (.iconst 1, 1) := by decide +kernel
theorem d_Mo_validModule_293 : decode b_Mo_validModule 293 = .ok (.goto 4, 3) := by decide +kernel
theorem d_Mo_validModule_296 : decode b_Mo_validModule 296 = .ok (.iconst 0, 1) := by decide +kernel
theorem d_Mo_validModule_297 : decode b_Mo_validModule 297 = .ok (.invokevirtual 186, 3) := by decide +kernel
theorem d_Mo_validModule_300 : decode b_Mo_validModule 300 = .ok (.iinc 2 1, 3) := by decide +kernel
theorem d_Mo_validModule_303 : decode b_Mo_validModule 303 = .ok (.goto (-50), 3) := by decide +kernel
theorem d_Mo_validModule_306 : decode b_Mo_validModule 306 = .ok (.iinc 1 1, 3) := by decide +kernel
theorem d_Mo_validModule_309 : decode b_Mo_validModule 309 = .ok (.goto (-144), 3) := by decide +kernel
theorem d_Mo_validModule_312 : decode b_Mo_validModule 312 = .ok (.iconst 0, 1) := by decide +kernel
theorem d_Mo_validModule_313 : decode b_Mo_validModule 313 = .ok (.istore_n 1, 1) := by decide +kernel
theorem d_Mo_validModule_314 : decode b_Mo_validModule 314 = .ok (.iload_n 1, 1) := by decide +kernel
theorem d_Mo_validModule_315 : decode b_Mo_validModule 315 = .ok (.aload_n 0, 1) := by decide +kernel
theorem d_Mo_validModule_316 : decode b_Mo_validModule 316 = .ok (.getfield 27, 3) := by decide +kernel
theorem d_Mo_validModule_319 : decode b_Mo_validModule 319 = .ok (.getfield 57, 3) := by decide +kernel
theorem d_Mo_validModule_322 : decode b_Mo_validModule 322 = .ok (.if_icmp .ge 14, 3) := by decide +kernel
theorem d_Mo_validModule_325 : decode b_Mo_validModule 325 = .ok (.aload_n 0, 1) := by decide +kernel
theorem d_Mo_validModule_326 : decode b_Mo_validModule 326 = .ok (.iload_n 1, 1) := by decide +kernel
theorem d_Mo_validModule_327 : decode b_Mo_validModule 327 = .ok (.invokevirtual 193, 3) := by decide +kernel
theorem d_Mo_validModule_330 : decode b_Mo_validModule 330 = .ok (.iinc 1 1, 3) := by decide +kernel
theorem d_Mo_validModule_333 : decode b_Mo_validModule 333 = .ok (.goto (-19), 3) := by decide +kernel
theorem d_Mo_validModule_336 : decode b_Mo_validModule 336 = .ok (.return_, 1) := by decide +kernel
