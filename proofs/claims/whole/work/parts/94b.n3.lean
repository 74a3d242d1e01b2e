theorem d_Mo_readModule_208 : decode b_Mo_readModule 208 = .ok (.iconst 0, 1) := by decide +kernel
theorem d_Mo_readModule_209 : decode b_Mo_readModule 209 = .ok (.invokevirtual 23, 3) := by decide +kernel
theorem d_Mo_readModule_212 : decode b_Mo_readModule 212 = .ok (.aload_n 0, 1) := by decide +kernel
theorem d_Mo_readModule_213 : decode b_Mo_readModule 213 = .ok (.iload 5, 2) := by decide +kernel
theorem d_Mo_readModule_215 : decode b_Mo_readModule 215 = .ok (.putfield 17, 3) := by decide +kernel
theorem d_Mo_readModule_218 : decode b_Mo_readModule 218 = .ok (.goto (-116), 3) := by decide +kernel
theorem d_Mo_readModule_221 : decode b_Mo_readModule 221 = .ok (.aload_n 0, 1) := by decide +kernel
theorem d_Mo_readModule_222 : decode b_Mo_readModule 222 = .ok (.iload_n 2, 1) := by decide +kernel
theorem d_Mo_readModule_223 : decode b_Mo_readModule 223 = .ok (.iload_n 1, 1) := by decide +kernel
theorem d_Mo_readModule_224 : decode b_Mo_readModule 224 = .ok (.if_icmp .le 7, 3) := by decide +kernel
theorem d_Mo_readModule_227 : decode b_Mo_readModule 227 = .ok (.iconst 1, 1) := by decide +kernel
theorem d_Mo_readModule_228 : decode b_Mo_readModule 228 = .ok (.goto 4, 3) := by decide +kernel
theorem d_Mo_readModule_231 : decode b_Mo_readModule 231 = .ok (.iconst 0, 1) := by decide +kernel
theorem d_Mo_readModule_232 : decode b_Mo_readModule 232 = .ok (.invokevirtual 23, 3) := by decide +kernel
theorem d_Mo_readModule_235 : decode b_Mo_readModule 235 = .ok (.iload_n 2, 1) := by decide +kernel
theorem d_Mo_readModule_236 : decode b_Mo_readModule 236 = .ok (.istore_n 1, 1) := by decide +kernel
theorem d_Mo_readModule_237 : decode b_Mo_readModule 237 = .ok (.aload_n 0, 1) := by decide +kernel
theorem d_Mo_readModule_238 : decode b_Mo_readModule 238 = .ok (.iload_n 2, 1) := by decide +kernel
theorem d_Mo_readModule_239 : decode b_Mo_readModule 239 = .ok (.invokevirtual 76, 3) := by decide +kernel
theorem d_Mo_readModule_242 : decode b_Mo_readModule 242 = .ok (.aload_n 0, 1) := by decide +kernel
theorem d_Mo_readModule_243 : decode b_Mo_readModule 243 = .ok (.aload_n 0, 1) := by decide +kernel
theorem d_Mo_readModule_244 : decode b_Mo_readModule 244 = .ok (.getfield 17, 3) := by decide +kernel
theorem d_Mo_readModule_247 : decode b_Mo_readModule 247 = .ok (.iload 5, 2) := by decide +kernel
theorem d_Mo_readModule_249 : decode b_Mo_readModule 249 = .ok (.if_icmp .ne 7, 3) := by decide +kernel
theorem d_Mo_readModule_252 : decode b_Mo_readModule 252 = .ok (.iconst 1, 1) := by decide +kernel
theorem d_Mo_readModule_253 : decode b_Mo_readModule 253 = .ok (.goto 4, 3) := by decide +kernel
theorem d_Mo_readModule_256 : decode b_Mo_readModule 256 = .ok (.iconst 0, 1) := by decide +kernel
theorem d_Mo_readModule_257 : decode b_Mo_readModule 257 = .ok (.invokevirtual 23, 3) := by decide +kernel
theorem d_Mo_readModule_260 : decode b_Mo_readModule 260 = .ok (.goto (-158), 3) := by decide +kernel
theorem d_Mo_readModule_263 : decode b_Mo_readModule 263 = .ok (.aload_n 0, 1) := by decide +kernel
theorem d_Mo_readModule_264 : decode b_Mo_readModule 264 = .ok (.aload_n 0, 1) := by decide +kernel
theorem d_Mo_readModule_265 : decode b_Mo_readModule 265 = .ok (.getfield 27, 3) := by decide +kernel
theorem d_Mo_readModule_268 : decode b_Mo_readModule 268 = .ok (.getfield 57, 3) := by decide +kernel
theorem d_Mo_readModule_271 : decode b_Mo_readModule 271 = .ok (.aload_n 0, 1) := by decide +kernel
theorem d_Mo_readModule_272 : decode b_Mo_readModule 272 = .ok (.getfield 27, 3) := by decide +kernel
theorem d_Mo_readModule_275 : decode b_Mo_readModule 275 = .ok (.getfield 60, 3) := by decide +kernel
theorem d_Mo_readModule_278 : decode b_Mo_readModule 278 = .ok (.if_icmp .ne 7, 3) := by decide +kernel
theorem d_Mo_readModule_281 : decode b_Mo_readModule 281 = .ok (.iconst 1, 1) := by decide +kernel
theorem d_Mo_readModule_282 : decode b_Mo_readModule 282 = .ok (.goto 4, 3) := by decide +kernel
theorem d_Mo_readModule_285 : decode b_Mo_readModule 285 = .ok (.iconst 0, 1) := by decide +kernel
theorem d_Mo_readModule_286 : decode b_Mo_readModule 286 = .ok (.invokevirtual 23, 3) := by decide +kernel
theorem d_Mo_readModule_289 : decode b_Mo_readModule 289 = .ok (.return_, 1) := by decide +kernel
