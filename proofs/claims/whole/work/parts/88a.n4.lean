abbrev b_Mo_validStep : ByteArray := prog_14_method_26_code
def y_Mo_validStep : MethodName := ⟨R_Mo, "validStep", "(I)V"⟩
theorem d_Mo_validStep_0 : decode b_Mo_validStep 0 = .ok (.iload_n 1, 1) := by decide +kernel
theorem d_Mo_validStep_1 : decode b_Mo_validStep 1 = .ok (.tableswitch 718 0 36 #[163, 170, 173, 173, 173, 221, 718, 718, 718, 718, 718, 718, 290, 310, 343, 350, 367, 718, 718, 718, 718, 718, 718, 718, 718, 718, 466, 475, 718, 718, 718, 718, 559, 579, 600, 631, 631], 163) := by decide +kernel
theorem d_Mo_validStep_164 : decode b_Mo_validStep 164 = .ok (.aload_n 0, 1) := by decide +kernel
theorem d_Mo_validStep_165 : decode b_Mo_validStep 165 = .ok (.invokevirtual 243, 3) := by decide +kernel
theorem d_Mo_validStep_168 : decode b_Mo_validStep 168 = .ok (.goto 556, 3) := by decide +kernel
theorem d_Mo_validStep_171 : decode b_Mo_validStep 171 = .ok (.goto 553, 3) := by decide +kernel
theorem d_Mo_validStep_174 : decode b_Mo_validStep 174 = .ok (.aload_n 0, 1) := by decide +kernel
theorem d_Mo_validStep_175 : decode b_Mo_validStep 175 = .ok (.invokevirtual 37, 3) := by decide +kernel
theorem d_Mo_validStep_178 : decode b_Mo_validStep 178 = .ok (.istore_n 2, 1) := by decide +kernel
theorem d_Mo_validStep_179 : decode b_Mo_validStep 179 = .ok (.iload_n 2, 1) := by decide +kernel
theorem d_Mo_validStep_180 : decode b_Mo_validStep 180 = .ok (.bipush 64, 2) := by decide +kernel
theorem d_Mo_validStep_182 : decode b_Mo_validStep 182 = .ok (.if_icmp .ne 7, 3) := by decide +kernel
theorem d_Mo_validStep_185 : decode b_Mo_validStep 185 = .ok (.iconst 0, 1) := by decide +kernel
theorem d_Mo_validStep_186 : decode b_Mo_validStep 186 = .ok (.goto 4, 3) := by decide +kernel
theorem d_Mo_validStep_189 : decode b_Mo_validStep 189 = .ok (.iload_n 2, 1) := by decide +kernel
theorem d_Mo_validStep_190 : decode b_Mo_validStep 190 = .ok (.istore_n 3, 1) := by decide +kernel
theorem d_Mo_validStep_191 : decode b_Mo_validStep 191 = .ok (.iload_n 1, 1) := by decide +kernel
theorem d_Mo_validStep_192 : decode b_Mo_validStep 192 = .ok (.iconst 4, 1) := by decide +kernel
theorem d_Mo_validStep_193 : decode b_Mo_validStep 193 = .ok (.if_icmp .ne 10, 3) := by decide +kernel
theorem d_Mo_validStep_196 : decode b_Mo_validStep 196 = .ok (.aload_n 0, 1) := by decide +kernel
theorem d_Mo_validStep_197 : decode b_Mo_validStep 197 = .ok (.bipush 127, 2) := by decide +kernel
theorem d_Mo_validStep_199 : decode b_Mo_validStep 199 = .ok (.invokevirtual 215, 3) := by decide +kernel
theorem d_Mo_validStep_202 : decode b_Mo_validStep 202 = .ok (.pop, 1) := by decide +kernel
theorem d_Mo_validStep_203 : decode b_Mo_validStep 203 = .ok (.aload_n 0, 1) := by decide +kernel
theorem d_Mo_validStep_204 : decode b_Mo_validStep 204 = .ok (.iload_n 1, 1) := by decide +kernel
theorem d_Mo_validStep_205 : decode b_Mo_validStep 205 = .ok (.iload_n 1, 1) := by decide +kernel
theorem d_Mo_validStep_206 : decode b_Mo_validStep 206 = .ok (.iconst 3, 1) := by decide +kernel
theorem d_Mo_validStep_207 : decode b_Mo_validStep 207 = .ok (.if_icmp .ne 7, 3) := by decide +kernel
theorem d_Mo_validStep_210 : decode b_Mo_validStep 210 = .ok (.iconst 0, 1) := by decide +kernel
theorem d_Mo_validStep_211 : decode b_Mo_validStep 211 = .ok (.goto 4, 3) := by decide +kernel
theorem d_Mo_validStep_214 : decode b_Mo_validStep 214 = .ok (.iload_n 3, 1) := by decide +kernel
theorem d_Mo_validStep_215 : decode b_Mo_validStep 215 = .ok (.iload_n 3, 1) := by decide +kernel
theorem d_Mo_validStep_216 : decode b_Mo_validStep 216 = .ok (.invokevirtual 230, 3) := by decide +kernel
theorem d_Mo_validStep_219 : decode b_Mo_validStep 219 = .ok (.goto 505, 3) := by decide +kernel
theorem d_Mo_validStep_222 : decode b_Mo_validStep 222 = .ok (.aload_n 0, 1) := by decide +kernel
theorem d_Mo_validStep_223 : decode b_Mo_validStep 223 = .ok (.aload_n 0, 1) := by decide +kernel
theorem d_Mo_validStep_224 : decode b_Mo_validStep 224 = .ok (.getfield 224, 3) := by decide +kernel
theorem d_Mo_validStep_227 : decode b_Mo_validStep 227 = .ok (.aload_n 0, 1) := by decide +kernel
theorem d_Mo_validStep_228 : decode b_Mo_validStep 228 = .ok (.getfield 209, 3) := by decide +kernel
theorem d_Mo_validStep_231 : decode b_Mo_validStep 231 = .ok (.iconst 1, 1) := by decide +kernel
theorem d_Mo_validStep_232 : decode b_Mo_validStep 232 = .ok (.isub, 1) := by decide +kernel
theorem d_Mo_validStep_233 : decode b_Mo_validStep 233 = .ok (.iaload, 1) := by decide +kernel
theorem d_Mo_validStep_234 : decode b_Mo_validStep 234 = .ok (.invokevirtual 234, 3) := by decide +kernel
theorem d_Mo_validStep_237 : decode b_Mo_validStep 237 = .ok (.aload_n 0, 1) := by decide +kernel
theorem d_Mo_validStep_238 : decode b_Mo_validStep 238 = .ok (.aload_n 0, 1) := by decide +kernel
theorem d_Mo_validStep_239 : decode b_Mo_validStep 239 = .ok (.getfield 203, 3) := by decide +kernel
theorem d_Mo_validStep_242 : decode b_Mo_validStep 242 = .ok (.aload_n 0, 1) := by decide +kernel
theorem d_Mo_validStep_243 : decode b_Mo_validStep 243 = .ok (.getfield 206, 3) := by decide +kernel
theorem d_Mo_validStep_246 : decode b_Mo_validStep 246 = .ok (.aload_n 0, 1) := by decide +kernel
theorem d_Mo_validStep_247 : decode b_Mo_validStep 247 = .ok (.getfield 209, 3) := by decide +kernel
theorem d_Mo_validStep_250 : decode b_Mo_validStep 250 = .ok (.iconst 1, 1) := by decide +kernel
theorem d_Mo_validStep_251 : decode b_Mo_validStep 251 = .ok (.isub, 1) := by decide +kernel
theorem d_Mo_validStep_252 : decode b_Mo_validStep 252 = .ok (.iaload, 1) := by decide +kernel
theorem d_Mo_validStep_253 : decode b_Mo_validStep 253 = .ok (.if_icmp .ne 7, 3) := by decide +kernel
theorem d_Mo_validStep_256 : decode b_Mo_validStep 256 = .ok (.iconst 1, 1) := by decide +kernel
theorem d_Mo_validStep_257 : decode b_Mo_validStep 257 = .ok (.goto 4, 3) := by decide +kernel
theorem d_Mo_validStep_260 : decode b_Mo_validStep 260 = .ok (.iconst 0, 1) := by decide +kernel
theorem d_Mo_validStep_261 : decode b_Mo_validStep 261 = .ok (.invokevirtual 186, 3) := by decide +kernel
theorem d_Mo_validStep_264 : decode b_Mo_validStep 264 = .ok (.aload_n 0, 1) := by decide +kernel
theorem d_Mo_validStep_265 : decode b_Mo_validStep 265 = .ok (.getfield 218, 3) := by decide +kernel
theorem d_Mo_validStep_268 : decode b_Mo_validStep 268 = .ok (.aload_n 0, 1) := by decide +kernel
theorem d_Mo_validStep_269 : decode b_Mo_validStep 269 = .ok (.getfield 209, 3) := by decide +kernel
theorem d_Mo_validStep_272 : decode b_Mo_validStep 272 = .ok (.iconst 1, 1) := by decide +kernel
theorem d_Mo_validStep_273 : decode b_Mo_validStep 273 = .ok (.isub, 1) := by decide +kernel
theorem d_Mo_validStep_274 : decode b_Mo_validStep 274 = .ok (.iconst 5, 1) := by decide +kernel
theorem d_Mo_validStep_275 : decode b_Mo_validStep 275 = .ok (.iastore, 1) := by decide +kernel
theorem d_Mo_validStep_276 : decode b_Mo_validStep 276 = .ok (.aload_n 0, 1) := by decide +kernel
theorem d_Mo_validStep_277 : decode b_Mo_validStep 277 = .ok (.getfield 212, 3) := by decide +kernel
theorem d_Mo_validStep_280 : decode b_Mo_validStep 280 = .ok (.aload_n 0, 1) := by decide +kernel
theorem d_Mo_validStep_281 : decode b_Mo_validStep 281 = .ok (.getfield 209, 3) := by decide +kernel
theorem d_Mo_validStep_284 : decode b_Mo_validStep 284 = .ok (.iconst 1, 1) := by decide +kernel
theorem d_Mo_validStep_285 : decode b_Mo_validStep 285 = .ok (.isub, 1) := by decide +kernel
theorem d_Mo_validStep_286 : decode b_Mo_validStep 286 = .ok (.iconst 0, 1) := by decide +kernel
theorem d_Mo_validStep_287 : decode b_Mo_validStep 287 = .ok (.bastore, 1) := by decide +kernel
theorem d_Mo_validStep_288 : decode b_Mo_validStep 288 = .ok (.goto 436, 3) := by decide +kernel
theorem d_Mo_validStep_291 : decode b_Mo_validStep 291 = .ok (.aload_n 0, 1) := by decide +kernel
theorem d_Mo_validStep_292 : decode b_Mo_validStep 292 = .ok (.aload_n 0, 1) := by decide +kernel
theorem d_Mo_validStep_293 : decode b_Mo_validStep 293 = .ok (.aload_n 0, 1) := by decide +kernel
theorem d_Mo_validStep_294 : decode b_Mo_validStep 294 = .ok (.invokevirtual 103, 3) := by decide +kernel
theorem d_Mo_validStep_297 : decode b_Mo_validStep 297 = .ok (.i2l, 1) := by decide +kernel
theorem d_Mo_validStep_298 : decode b_Mo_validStep 298 = .ok (.invokevirtual 247, 3) := by decide +kernel
theorem d_Mo_validStep_301 : decode b_Mo_validStep 301 = .ok (.invokevirtual 234, 3) := by decide +kernel
theorem d_Mo_validStep_304 : decode b_Mo_validStep 304 = .ok (.aload_n 0, 1) := by decide +kernel
theorem d_Mo_validStep_305 : decode b_Mo_validStep 305 = .ok (.invokevirtual 243, 3) := by decide +kernel
theorem d_Mo_validStep_308 : decode b_Mo_validStep 308 = .ok (.goto 416, 3) := by decide +kernel
theorem d_Mo_validStep_311 : decode b_Mo_validStep 311 = .ok (.aload_n 0, 1) := by decide +kernel
theorem d_Mo_validStep_312 : decode b_Mo_validStep 312 = .ok (.aload_n 0, 1) := by decide +kernel
theorem d_Mo_validStep_313 : decode b_Mo_validStep 313 = .ok (.invokevirtual 103, 3) := by decide +kernel
theorem d_Mo_validStep_316 : decode b_Mo_validStep 316 = .ok (.i2l, 1) := by decide +kernel
theorem d_Mo_validStep_317 : decode b_Mo_validStep 317 = .ok (.invokevirtual 247, 3) := by decide +kernel
theorem d_Mo_validStep_320 : decode b_Mo_validStep 320 = .ok (.istore 4, 2) := by decide +kernel
theorem d_Mo_validStep_322 : decode b_Mo_validStep 322 = .ok (.aload_n 0, 1) := by decide +kernel
theorem d_Mo_validStep_323 : decode b_Mo_validStep 323 = .ok (.bipush 127, 2) := by decide +kernel
theorem d_Mo_validStep_325 : decode b_Mo_validStep 325 = .ok (.invokevirtual 215, 3) := by decide +kernel
theorem d_Mo_validStep_328 : decode b_Mo_validStep 328 = .ok (.pop, 1) := by decide +kernel
theorem d_Mo_validStep_329 : decode b_Mo_validStep 329 = .ok (.aload_n 0, 1) := by decide +kernel
theorem d_Mo_validStep_330 : decode b_Mo_validStep 330 = .ok (.iload 4, 2) := by decide +kernel
theorem d_Mo_validStep_332 : decode b_Mo_validStep 332 = .ok (.invokevirtual 234, 3) := by decide +kernel
theorem d_Mo_validStep_335 : decode b_Mo_validStep 335 = .ok (.aload_n 0, 1) := by decide +kernel
theorem d_Mo_validStep_336 : decode b_Mo_validStep 336 = .ok (.iload 4, 2) := by decide +kernel
theorem d_Mo_validStep_338 : decode b_Mo_validStep 338 = .ok (.invokevirtual 237, 3) := by decide +kernel
theorem d_Mo_validStep_341 : decode b_Mo_validStep 341 = .ok (.goto 383, 3) := by decide +kernel
theorem d_Mo_validStep_344 : decode b_Mo_validStep 344 = .ok (.aload_n 0, 1) := by decide +kernel
theorem d_Mo_validStep_345 : decode b_Mo_validStep 345 = .ok (.invokevirtual 250, 3) := by decide +kernel
theorem d_Mo_validStep_348 : decode b_Mo_validStep 348 = .ok (.goto 376, 3) := by decide +kernel
theorem d_Mo_validStep_351 : decode b_Mo_validStep 351 = .ok (.aload_n 0, 1) := by decide +kernel
theorem d_Mo_validStep_352 : decode b_Mo_validStep 352 = .ok (.aload_n 0, 1) := by decide +kernel
theorem d_Mo_validStep_353 : decode b_Mo_validStep 353 = .ok (.getfield 224, 3) := by decide +kernel
theorem d_Mo_validStep_356 : decode b_Mo_validStep 356 = .ok (.iconst 0, 1) := by decide +kernel
theorem d_Mo_validStep_357 : decode b_Mo_validStep 357 = .ok (.iaload, 1) := by decide +kernel
