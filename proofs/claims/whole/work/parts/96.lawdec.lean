/-! The law: what its instructions decode to, its calls, rows of its long array (wip/tools/m_law0.py). -/
theorem d_Lw_law_0 : decode code 0 = .ok (.new 8, 3) := by decide +kernel
theorem d_Lw_law_3 : decode code 3 = .ok (.dup, 1) := by decide +kernel
theorem d_Lw_law_4 : decode code 4 = .ok (.invokespecial 50, 3) := by decide +kernel
theorem d_Lw_law_7 : decode code 7 = .ok (.astore_n 1, 1) := by decide +kernel
theorem d_Lw_law_8 : decode code 8 = .ok (.new 51, 3) := by decide +kernel
theorem d_Lw_law_11 : decode code 11 = .ok (.dup, 1) := by decide +kernel
theorem d_Lw_law_12 : decode code 12 = .ok (.invokespecial 53, 3) := by decide +kernel
theorem d_Lw_law_15 : decode code 15 = .ok (.astore_n 2, 1) := by decide +kernel
theorem d_Lw_law_16 : decode code 16 = .ok (.iconst 1, 1) := by decide +kernel
theorem d_Lw_law_17 : decode code 17 = .ok (.newarray .long, 2) := by decide +kernel
theorem d_Lw_law_19 : decode code 19 = .ok (.astore_n 3, 1) := by decide +kernel
theorem d_Lw_law_20 : decode code 20 = .ok (.iconst 0, 1) := by decide +kernel
theorem d_Lw_law_21 : decode code 21 = .ok (.istore 4, 2) := by decide +kernel
theorem d_Lw_law_23 : decode code 23 = .ok (.iload 4, 2) := by decide +kernel
theorem d_Lw_law_25 : decode code 25 = .ok (.aload_n 0, 1) := by decide +kernel
theorem d_Lw_law_26 : decode code 26 = .ok (.arraylength, 1) := by decide +kernel
theorem d_Lw_law_27 : decode code 27 = .ok (.iconst 4, 1) := by decide +kernel
theorem d_Lw_law_28 : decode code 28 = .ok (.isub, 1) := by decide +kernel
theorem d_Lw_law_29 : decode code 29 = .ok (.if_icmp .gt 827, 3) := by decide +kernel
theorem d_Lw_law_32 : decode code 32 = .ok (.aload_n 0, 1) := by decide +kernel
theorem d_Lw_law_33 : decode code 33 = .ok (.iload 4, 2) := by decide +kernel
theorem d_Lw_law_35 : decode code 35 = .ok (.iaload, 1) := by decide +kernel
theorem d_Lw_law_36 : decode code 36 = .ok (.bipush 15, 2) := by decide +kernel
theorem d_Lw_law_38 : decode code 38 = .ok (.iand, 1) := by decide +kernel
theorem d_Lw_law_39 : decode code 39 = .ok (.tableswitch 811 0 12 #[65, 121, 201, 292, 372, 440, 508, 533, 613, 649, 705, 761, 786], 65) := by decide +kernel
theorem d_Lw_law_104 : decode code 104 = .ok (.aload_n 1, 1) := by decide +kernel
theorem d_Lw_law_105 : decode code 105 = .ok (.aload_n 0, 1) := by decide +kernel
theorem d_Lw_law_106 : decode code 106 = .ok (.iload 4, 2) := by decide +kernel
theorem d_Lw_law_108 : decode code 108 = .ok (.iconst 1, 1) := by decide +kernel
theorem d_Lw_law_109 : decode code 109 = .ok (.iadd, 1) := by decide +kernel
theorem d_Lw_law_110 : decode code 110 = .ok (.iaload, 1) := by decide +kernel
theorem d_Lw_law_111 : decode code 111 = .ok (.aload_n 3, 1) := by decide +kernel
theorem d_Lw_law_112 : decode code 112 = .ok (.invokestatic 54, 3) := by decide +kernel
theorem d_Lw_law_115 : decode code 115 = .ok (.istore 5, 2) := by decide +kernel
theorem d_Lw_law_117 : decode code 117 = .ok (.aload_n 2, 1) := by decide +kernel
theorem d_Lw_law_118 : decode code 118 = .ok (.aload_n 0, 1) := by decide +kernel
theorem d_Lw_law_119 : decode code 119 = .ok (.iload 4, 2) := by decide +kernel
theorem d_Lw_law_121 : decode code 121 = .ok (.iconst 1, 1) := by decide +kernel
theorem d_Lw_law_122 : decode code 122 = .ok (.iadd, 1) := by decide +kernel
theorem d_Lw_law_123 : decode code 123 = .ok (.iaload, 1) := by decide +kernel
theorem d_Lw_law_124 : decode code 124 = .ok (.invokevirtual 59, 3) := by decide +kernel
theorem d_Lw_law_127 : decode code 127 = .ok (.istore 6, 2) := by decide +kernel
theorem d_Lw_law_129 : decode code 129 = .ok (.aload_n 2, 1) := by decide +kernel
theorem d_Lw_law_130 : decode code 130 = .ok (.invokevirtual 60, 3) := by decide +kernel
theorem d_Lw_law_133 : decode code 133 = .ok (.iload 5, 2) := by decide +kernel
theorem d_Lw_law_135 : decode code 135 = .ok (.if_icmp .eq 5, 3) := by decide +kernel
theorem d_Lw_law_138 : decode code 138 = .ok (.iconst 0, 1) := by decide +kernel
theorem d_Lw_law_139 : decode code 139 = .ok (.ireturn, 1) := by decide +kernel
theorem d_Lw_law_140 : decode code 140 = .ok (.iload 5, 2) := by decide +kernel
theorem d_Lw_law_142 : decode code 142 = .ok (.ifCond .ne 15, 3) := by decide +kernel
theorem d_Lw_law_145 : decode code 145 = .ok (.aload_n 3, 1) := by decide +kernel
theorem d_Lw_law_146 : decode code 146 = .ok (.iconst 0, 1) := by decide +kernel
theorem d_Lw_law_147 : decode code 147 = .ok (.laload, 1) := by decide +kernel
theorem d_Lw_law_148 : decode code 148 = .ok (.iload 6, 2) := by decide +kernel
theorem d_Lw_law_150 : decode code 150 = .ok (.i2l, 1) := by decide +kernel
theorem d_Lw_law_151 : decode code 151 = .ok (.lcmp, 1) := by decide +kernel
theorem d_Lw_law_152 : decode code 152 = .ok (.ifCond .eq 5, 3) := by decide +kernel
theorem d_Lw_law_155 : decode code 155 = .ok (.iconst 0, 1) := by decide +kernel
theorem d_Lw_law_156 : decode code 156 = .ok (.ireturn, 1) := by decide +kernel
theorem d_Lw_law_157 : decode code 157 = .ok (.goto 693, 3) := by decide +kernel
theorem d_Lw_law_160 : decode code 160 = .ok (.aload_n 1, 1) := by decide +kernel
theorem d_Lw_law_161 : decode code 161 = .ok (.aload_n 0, 1) := by decide +kernel
theorem d_Lw_law_162 : decode code 162 = .ok (.iload 4, 2) := by decide +kernel
theorem d_Lw_law_164 : decode code 164 = .ok (.iconst 1, 1) := by decide +kernel
theorem d_Lw_law_165 : decode code 165 = .ok (.iadd, 1) := by decide +kernel
theorem d_Lw_law_166 : decode code 166 = .ok (.iaload, 1) := by decide +kernel
theorem d_Lw_law_167 : decode code 167 = .ok (.aload_n 0, 1) := by decide +kernel
theorem d_Lw_law_168 : decode code 168 = .ok (.iload 4, 2) := by decide +kernel
theorem d_Lw_law_170 : decode code 170 = .ok (.iconst 2, 1) := by decide +kernel
theorem d_Lw_law_171 : decode code 171 = .ok (.iadd, 1) := by decide +kernel
theorem d_Lw_law_172 : decode code 172 = .ok (.iaload, 1) := by decide +kernel
theorem d_Lw_law_173 : decode code 173 = .ok (.aload_n 0, 1) := by decide +kernel
theorem d_Lw_law_174 : decode code 174 = .ok (.iload 4, 2) := by decide +kernel
theorem d_Lw_law_176 : decode code 176 = .ok (.iconst 3, 1) := by decide +kernel
theorem d_Lw_law_177 : decode code 177 = .ok (.iadd, 1) := by decide +kernel
theorem d_Lw_law_178 : decode code 178 = .ok (.iaload, 1) := by decide +kernel
theorem d_Lw_law_179 : decode code 179 = .ok (.aload_n 3, 1) := by decide +kernel
theorem d_Lw_law_180 : decode code 180 = .ok (.invokestatic 64, 3) := by decide +kernel
theorem d_Lw_law_183 : decode code 183 = .ok (.istore 5, 2) := by decide +kernel
theorem d_Lw_law_185 : decode code 185 = .ok (.aload_n 2, 1) := by decide +kernel
theorem d_Lw_law_186 : decode code 186 = .ok (.aload_n 0, 1) := by decide +kernel
theorem d_Lw_law_187 : decode code 187 = .ok (.iload 4, 2) := by decide +kernel
theorem d_Lw_law_189 : decode code 189 = .ok (.iconst 1, 1) := by decide +kernel
theorem d_Lw_law_190 : decode code 190 = .ok (.iadd, 1) := by decide +kernel
theorem d_Lw_law_191 : decode code 191 = .ok (.iaload, 1) := by decide +kernel
theorem d_Lw_law_192 : decode code 192 = .ok (.aload_n 0, 1) := by decide +kernel
theorem d_Lw_law_193 : decode code 193 = .ok (.iload 4, 2) := by decide +kernel
theorem d_Lw_law_195 : decode code 195 = .ok (.iconst 2, 1) := by decide +kernel
theorem d_Lw_law_196 : decode code 196 = .ok (.iadd, 1) := by decide +kernel
theorem d_Lw_law_197 : decode code 197 = .ok (.iaload, 1) := by decide +kernel
theorem d_Lw_law_198 : decode code 198 = .ok (.aload_n 0, 1) := by decide +kernel
theorem d_Lw_law_199 : decode code 199 = .ok (.iload 4, 2) := by decide +kernel
theorem d_Lw_law_201 : decode code 201 = .ok (.iconst 3, 1) := by decide +kernel
theorem d_Lw_law_202 : decode code 202 = .ok (.iadd, 1) := by decide +kernel
theorem d_Lw_law_203 : decode code 203 = .ok (.iaload, 1) := by decide +kernel
theorem d_Lw_law_204 : decode code 204 = .ok (.invokevirtual 67, 3) := by decide +kernel
theorem d_Lw_law_207 : decode code 207 = .ok (.istore 6, 2) := by decide +kernel
theorem d_Lw_law_209 : decode code 209 = .ok (.aload_n 2, 1) := by decide +kernel
theorem d_Lw_law_210 : decode code 210 = .ok (.invokevirtual 60, 3) := by decide +kernel
theorem d_Lw_law_213 : decode code 213 = .ok (.iload 5, 2) := by decide +kernel
theorem d_Lw_law_215 : decode code 215 = .ok (.if_icmp .eq 5, 3) := by decide +kernel
theorem d_Lw_law_218 : decode code 218 = .ok (.iconst 0, 1) := by decide +kernel
theorem d_Lw_law_219 : decode code 219 = .ok (.ireturn, 1) := by decide +kernel
theorem d_Lw_law_220 : decode code 220 = .ok (.iload 5, 2) := by decide +kernel
theorem d_Lw_law_222 : decode code 222 = .ok (.ifCond .ne 15, 3) := by decide +kernel
theorem d_Lw_law_225 : decode code 225 = .ok (.aload_n 3, 1) := by decide +kernel
theorem d_Lw_law_226 : decode code 226 = .ok (.iconst 0, 1) := by decide +kernel
theorem d_Lw_law_227 : decode code 227 = .ok (.laload, 1) := by decide +kernel
theorem d_Lw_law_228 : decode code 228 = .ok (.iload 6, 2) := by decide +kernel
theorem d_Lw_law_230 : decode code 230 = .ok (.i2l, 1) := by decide +kernel
theorem d_Lw_law_231 : decode code 231 = .ok (.lcmp, 1) := by decide +kernel
theorem d_Lw_law_232 : decode code 232 = .ok (.ifCond .eq 5, 3) := by decide +kernel
theorem d_Lw_law_235 : decode code 235 = .ok (.iconst 0, 1) := by decide +kernel
theorem d_Lw_law_236 : decode code 236 = .ok (.ireturn, 1) := by decide +kernel
theorem d_Lw_law_237 : decode code 237 = .ok (.goto 613, 3) := by decide +kernel
theorem d_Lw_law_240 : decode code 240 = .ok (.aload_n 1, 1) := by decide +kernel
theorem d_Lw_law_241 : decode code 241 = .ok (.aload_n 0, 1) := by decide +kernel
theorem d_Lw_law_242 : decode code 242 = .ok (.iload 4, 2) := by decide +kernel
theorem d_Lw_law_244 : decode code 244 = .ok (.iconst 1, 1) := by decide +kernel
theorem d_Lw_law_245 : decode code 245 = .ok (.iadd, 1) := by decide +kernel
theorem d_Lw_law_246 : decode code 246 = .ok (.iaload, 1) := by decide +kernel
theorem d_Lw_law_247 : decode code 247 = .ok (.aload_n 0, 1) := by decide +kernel
theorem d_Lw_law_248 : decode code 248 = .ok (.iload 4, 2) := by decide +kernel
theorem d_Lw_law_250 : decode code 250 = .ok (.iconst 2, 1) := by decide +kernel
theorem d_Lw_law_251 : decode code 251 = .ok (.iadd, 1) := by decide +kernel
theorem d_Lw_law_252 : decode code 252 = .ok (.iaload, 1) := by decide +kernel
theorem d_Lw_law_253 : decode code 253 = .ok (.ifCond .eq 7, 3) := by decide +kernel
theorem d_Lw_law_256 : decode code 256 = .ok (.iconst 1, 1) := by decide +kernel
theorem d_Lw_law_257 : decode code 257 = .ok (.goto 4, 3) := by decide +kernel
theorem d_Lw_law_260 : decode code 260 = .ok (.iconst 0, 1) := by decide +kernel
theorem d_Lw_law_261 : decode code 261 = .ok (.aload_n 3, 1) := by decide +kernel
theorem d_Lw_law_262 : decode code 262 = .ok (.invokestatic 68, 3) := by decide +kernel
theorem d_Lw_law_265 : decode code 265 = .ok (.istore 5, 2) := by decide +kernel
theorem d_Lw_law_267 : decode code 267 = .ok (.aload_n 2, 1) := by decide +kernel
theorem d_Lw_law_268 : decode code 268 = .ok (.aload_n 0, 1) := by decide +kernel
theorem d_Lw_law_269 : decode code 269 = .ok (.iload 4, 2) := by decide +kernel
theorem d_Lw_law_271 : decode code 271 = .ok (.iconst 1, 1) := by decide +kernel
theorem d_Lw_law_272 : decode code 272 = .ok (.iadd, 1) := by decide +kernel
theorem d_Lw_law_273 : decode code 273 = .ok (.iaload, 1) := by decide +kernel
theorem d_Lw_law_274 : decode code 274 = .ok (.aload_n 0, 1) := by decide +kernel
theorem d_Lw_law_275 : decode code 275 = .ok (.iload 4, 2) := by decide +kernel
theorem d_Lw_law_277 : decode code 277 = .ok (.iconst 2, 1) := by decide +kernel
theorem d_Lw_law_278 : decode code 278 = .ok (.iadd, 1) := by decide +kernel
theorem d_Lw_law_279 : decode code 279 = .ok (.iaload, 1) := by decide +kernel
theorem d_Lw_law_280 : decode code 280 = .ok (.ifCond .eq 7, 3) := by decide +kernel
theorem d_Lw_law_283 : decode code 283 = .ok (.iconst 1, 1) := by decide +kernel
theorem d_Lw_law_284 : decode code 284 = .ok (.goto 4, 3) := by decide +kernel
theorem d_Lw_law_287 : decode code 287 = .ok (.iconst 0, 1) := by decide +kernel
theorem d_Lw_law_288 : decode code 288 = .ok (.invokevirtual 71, 3) := by decide +kernel
theorem d_Lw_law_291 : decode code 291 = .ok (.istore 6, 2) := by decide +kernel
theorem d_Lw_law_293 : decode code 293 = .ok (.aload_n 2, 1) := by decide +kernel
theorem d_Lw_law_294 : decode code 294 = .ok (.invokevirtual 60, 3) := by decide +kernel
theorem d_Lw_law_297 : decode code 297 = .ok (.iload 5, 2) := by decide +kernel
theorem d_Lw_law_299 : decode code 299 = .ok (.if_icmp .eq 5, 3) := by decide +kernel
theorem d_Lw_law_302 : decode code 302 = .ok (.iconst 0, 1) := by decide +kernel
theorem d_Lw_law_303 : decode code 303 = .ok (.ireturn, 1) := by decide +kernel
theorem d_Lw_law_304 : decode code 304 = .ok (.iload 5, 2) := by decide +kernel
theorem d_Lw_law_306 : decode code 306 = .ok (.ifCond .ne 22, 3) := by decide +kernel
theorem d_Lw_law_309 : decode code 309 = .ok (.aload_n 3, 1) := by decide +kernel
theorem d_Lw_law_310 : decode code 310 = .ok (.iconst 0, 1) := by decide +kernel
theorem d_Lw_law_311 : decode code 311 = .ok (.laload, 1) := by decide +kernel
theorem d_Lw_law_312 : decode code 312 = .ok (.iload 6, 2) := by decide +kernel
theorem d_Lw_law_314 : decode code 314 = .ok (.ifCond .eq 7, 3) := by decide +kernel
theorem d_Lw_law_317 : decode code 317 = .ok (.lconst 1, 1) := by decide +kernel
theorem d_Lw_law_318 : decode code 318 = .ok (.goto 4, 3) := by decide +kernel
theorem d_Lw_law_321 : decode code 321 = .ok (.lconst 0, 1) := by decide +kernel
theorem d_Lw_law_322 : decode code 322 = .ok (.lcmp, 1) := by decide +kernel
theorem d_Lw_law_323 : decode code 323 = .ok (.ifCond .eq 5, 3) := by decide +kernel
theorem d_Lw_law_326 : decode code 326 = .ok (.iconst 0, 1) := by decide +kernel
theorem d_Lw_law_327 : decode code 327 = .ok (.ireturn, 1) := by decide +kernel
theorem d_Lw_law_328 : decode code 328 = .ok (.goto 522, 3) := by decide +kernel
theorem d_Lw_law_331 : decode code 331 = .ok (.aload_n 1, 1) := by decide +kernel
theorem d_Lw_law_332 : decode code 332 = .ok (.aload_n 0, 1) := by decide +kernel
theorem d_Lw_law_333 : decode code 333 = .ok (.iload 4, 2) := by decide +kernel
theorem d_Lw_law_335 : decode code 335 = .ok (.iconst 1, 1) := by decide +kernel
theorem d_Lw_law_336 : decode code 336 = .ok (.iadd, 1) := by decide +kernel
theorem d_Lw_law_337 : decode code 337 = .ok (.iaload, 1) := by decide +kernel
theorem d_Lw_law_338 : decode code 338 = .ok (.aload_n 0, 1) := by decide +kernel
theorem d_Lw_law_339 : decode code 339 = .ok (.iload 4, 2) := by decide +kernel
theorem d_Lw_law_341 : decode code 341 = .ok (.iconst 2, 1) := by decide +kernel
theorem d_Lw_law_342 : decode code 342 = .ok (.iadd, 1) := by decide +kernel
theorem d_Lw_law_343 : decode code 343 = .ok (.iaload, 1) := by decide +kernel
theorem d_Lw_law_344 : decode code 344 = .ok (.aload_n 0, 1) := by decide +kernel
theorem d_Lw_law_345 : decode code 345 = .ok (.iload 4, 2) := by decide +kernel
theorem d_Lw_law_347 : decode code 347 = .ok (.iconst 3, 1) := by decide +kernel
theorem d_Lw_law_348 : decode code 348 = .ok (.iadd, 1) := by decide +kernel
theorem d_Lw_law_349 : decode code 349 = .ok (.iaload, 1) := by decide +kernel
theorem d_Lw_law_350 : decode code 350 = .ok (.aload_n 3, 1) := by decide +kernel
theorem d_Lw_law_351 : decode code 351 = .ok (.invokestatic 72, 3) := by decide +kernel
theorem d_Lw_law_354 : decode code 354 = .ok (.istore 5, 2) := by decide +kernel
theorem d_Lw_law_356 : decode code 356 = .ok (.aload_n 2, 1) := by decide +kernel
theorem d_Lw_law_357 : decode code 357 = .ok (.aload_n 0, 1) := by decide +kernel
theorem d_Lw_law_358 : decode code 358 = .ok (.iload 4, 2) := by decide +kernel
theorem d_Lw_law_360 : decode code 360 = .ok (.iconst 1, 1) := by decide +kernel
theorem d_Lw_law_361 : decode code 361 = .ok (.iadd, 1) := by decide +kernel
theorem d_Lw_law_362 : decode code 362 = .ok (.iaload, 1) := by decide +kernel
theorem d_Lw_law_363 : decode code 363 = .ok (.aload_n 0, 1) := by decide +kernel
theorem d_Lw_law_364 : decode code 364 = .ok (.iload 4, 2) := by decide +kernel
theorem d_Lw_law_366 : decode code 366 = .ok (.iconst 2, 1) := by decide +kernel
theorem d_Lw_law_367 : decode code 367 = .ok (.iadd, 1) := by decide +kernel
theorem d_Lw_law_368 : decode code 368 = .ok (.iaload, 1) := by decide +kernel
theorem d_Lw_law_369 : decode code 369 = .ok (.aload_n 0, 1) := by decide +kernel
theorem d_Lw_law_370 : decode code 370 = .ok (.iload 4, 2) := by decide +kernel
theorem d_Lw_law_372 : decode code 372 = .ok (.iconst 3, 1) := by decide +kernel
theorem d_Lw_law_373 : decode code 373 = .ok (.iadd, 1) := by decide +kernel
theorem d_Lw_law_374 : decode code 374 = .ok (.iaload, 1) := by decide +kernel
theorem d_Lw_law_375 : decode code 375 = .ok (.invokevirtual 74, 3) := by decide +kernel
theorem d_Lw_law_378 : decode code 378 = .ok (.istore 6, 2) := by decide +kernel
theorem d_Lw_law_380 : decode code 380 = .ok (.aload_n 2, 1) := by decide +kernel
theorem d_Lw_law_381 : decode code 381 = .ok (.invokevirtual 60, 3) := by decide +kernel
theorem d_Lw_law_384 : decode code 384 = .ok (.iload 5, 2) := by decide +kernel
theorem d_Lw_law_386 : decode code 386 = .ok (.if_icmp .eq 5, 3) := by decide +kernel
theorem d_Lw_law_389 : decode code 389 = .ok (.iconst 0, 1) := by decide +kernel
theorem d_Lw_law_390 : decode code 390 = .ok (.ireturn, 1) := by decide +kernel
theorem d_Lw_law_391 : decode code 391 = .ok (.iload 5, 2) := by decide +kernel
theorem d_Lw_law_393 : decode code 393 = .ok (.ifCond .ne 15, 3) := by decide +kernel
theorem d_Lw_law_396 : decode code 396 = .ok (.aload_n 3, 1) := by decide +kernel
theorem d_Lw_law_397 : decode code 397 = .ok (.iconst 0, 1) := by decide +kernel
theorem d_Lw_law_398 : decode code 398 = .ok (.laload, 1) := by decide +kernel
theorem d_Lw_law_399 : decode code 399 = .ok (.iload 6, 2) := by decide +kernel
theorem d_Lw_law_401 : decode code 401 = .ok (.i2l, 1) := by decide +kernel
theorem d_Lw_law_402 : decode code 402 = .ok (.lcmp, 1) := by decide +kernel
theorem d_Lw_law_403 : decode code 403 = .ok (.ifCond .eq 5, 3) := by decide +kernel
theorem d_Lw_law_406 : decode code 406 = .ok (.iconst 0, 1) := by decide +kernel
theorem d_Lw_law_407 : decode code 407 = .ok (.ireturn, 1) := by decide +kernel
theorem d_Lw_law_408 : decode code 408 = .ok (.goto 442, 3) := by decide +kernel
theorem d_Lw_law_411 : decode code 411 = .ok (.aload_n 1, 1) := by decide +kernel
theorem d_Lw_law_412 : decode code 412 = .ok (.aload_n 0, 1) := by decide +kernel
theorem d_Lw_law_413 : decode code 413 = .ok (.iload 4, 2) := by decide +kernel
theorem d_Lw_law_415 : decode code 415 = .ok (.iconst 1, 1) := by decide +kernel
theorem d_Lw_law_416 : decode code 416 = .ok (.iadd, 1) := by decide +kernel
theorem d_Lw_law_417 : decode code 417 = .ok (.iaload, 1) := by decide +kernel
theorem d_Lw_law_418 : decode code 418 = .ok (.aload_n 0, 1) := by decide +kernel
theorem d_Lw_law_419 : decode code 419 = .ok (.iload 4, 2) := by decide +kernel
theorem d_Lw_law_421 : decode code 421 = .ok (.iconst 2, 1) := by decide +kernel
theorem d_Lw_law_422 : decode code 422 = .ok (.iadd, 1) := by decide +kernel
theorem d_Lw_law_423 : decode code 423 = .ok (.iaload, 1) := by decide +kernel
theorem d_Lw_law_424 : decode code 424 = .ok (.aload_n 3, 1) := by decide +kernel
theorem d_Lw_law_425 : decode code 425 = .ok (.invokestatic 75, 3) := by decide +kernel
theorem d_Lw_law_428 : decode code 428 = .ok (.istore 5, 2) := by decide +kernel
theorem d_Lw_law_430 : decode code 430 = .ok (.aload_n 2, 1) := by decide +kernel
theorem d_Lw_law_431 : decode code 431 = .ok (.aload_n 0, 1) := by decide +kernel
theorem d_Lw_law_432 : decode code 432 = .ok (.iload 4, 2) := by decide +kernel
theorem d_Lw_law_434 : decode code 434 = .ok (.iconst 1, 1) := by decide +kernel
theorem d_Lw_law_435 : decode code 435 = .ok (.iadd, 1) := by decide +kernel
theorem d_Lw_law_436 : decode code 436 = .ok (.iaload, 1) := by decide +kernel
theorem d_Lw_law_437 : decode code 437 = .ok (.aload_n 0, 1) := by decide +kernel
theorem d_Lw_law_438 : decode code 438 = .ok (.iload 4, 2) := by decide +kernel
theorem d_Lw_law_440 : decode code 440 = .ok (.iconst 2, 1) := by decide +kernel
theorem d_Lw_law_441 : decode code 441 = .ok (.iadd, 1) := by decide +kernel
theorem d_Lw_law_442 : decode code 442 = .ok (.iaload, 1) := by decide +kernel
theorem d_Lw_law_443 : decode code 443 = .ok (.invokevirtual 78, 3) := by decide +kernel
theorem d_Lw_law_446 : decode code 446 = .ok (.istore 6, 2) := by decide +kernel
theorem d_Lw_law_448 : decode code 448 = .ok (.aload_n 2, 1) := by decide +kernel
theorem d_Lw_law_449 : decode code 449 = .ok (.invokevirtual 60, 3) := by decide +kernel
theorem d_Lw_law_452 : decode code 452 = .ok (.iload 5, 2) := by decide +kernel
theorem d_Lw_law_454 : decode code 454 = .ok (.if_icmp .eq 5, 3) := by decide +kernel
theorem d_Lw_law_457 : decode code 457 = .ok (.iconst 0, 1) := by decide +kernel
theorem d_Lw_law_458 : decode code 458 = .ok (.ireturn, 1) := by decide +kernel
theorem d_Lw_law_459 : decode code 459 = .ok (.iload 5, 2) := by decide +kernel
theorem d_Lw_law_461 : decode code 461 = .ok (.ifCond .ne 15, 3) := by decide +kernel
theorem d_Lw_law_464 : decode code 464 = .ok (.aload_n 3, 1) := by decide +kernel
theorem d_Lw_law_465 : decode code 465 = .ok (.iconst 0, 1) := by decide +kernel
theorem d_Lw_law_466 : decode code 466 = .ok (.laload, 1) := by decide +kernel
theorem d_Lw_law_467 : decode code 467 = .ok (.iload 6, 2) := by decide +kernel
theorem d_Lw_law_469 : decode code 469 = .ok (.i2l, 1) := by decide +kernel
theorem d_Lw_law_470 : decode code 470 = .ok (.lcmp, 1) := by decide +kernel
theorem d_Lw_law_471 : decode code 471 = .ok (.ifCond .eq 5, 3) := by decide +kernel
theorem d_Lw_law_474 : decode code 474 = .ok (.iconst 0, 1) := by decide +kernel
theorem d_Lw_law_475 : decode code 475 = .ok (.ireturn, 1) := by decide +kernel
theorem d_Lw_law_476 : decode code 476 = .ok (.goto 374, 3) := by decide +kernel
theorem d_Lw_law_479 : decode code 479 = .ok (.aload_n 1, 1) := by decide +kernel
theorem d_Lw_law_480 : decode code 480 = .ok (.aload_n 0, 1) := by decide +kernel
theorem d_Lw_law_481 : decode code 481 = .ok (.iload 4, 2) := by decide +kernel
theorem d_Lw_law_483 : decode code 483 = .ok (.iconst 1, 1) := by decide +kernel
theorem d_Lw_law_484 : decode code 484 = .ok (.iadd, 1) := by decide +kernel
theorem d_Lw_law_485 : decode code 485 = .ok (.iaload, 1) := by decide +kernel
theorem d_Lw_law_486 : decode code 486 = .ok (.aload_n 0, 1) := by decide +kernel
theorem d_Lw_law_487 : decode code 487 = .ok (.iload 4, 2) := by decide +kernel
theorem d_Lw_law_489 : decode code 489 = .ok (.iconst 2, 1) := by decide +kernel
theorem d_Lw_law_490 : decode code 490 = .ok (.iadd, 1) := by decide +kernel
theorem d_Lw_law_491 : decode code 491 = .ok (.iaload, 1) := by decide +kernel
theorem d_Lw_law_492 : decode code 492 = .ok (.aload_n 3, 1) := by decide +kernel
theorem d_Lw_law_493 : decode code 493 = .ok (.invokestatic 79, 3) := by decide +kernel
theorem d_Lw_law_496 : decode code 496 = .ok (.istore 5, 2) := by decide +kernel
theorem d_Lw_law_498 : decode code 498 = .ok (.aload_n 2, 1) := by decide +kernel
theorem d_Lw_law_499 : decode code 499 = .ok (.aload_n 0, 1) := by decide +kernel
theorem d_Lw_law_500 : decode code 500 = .ok (.iload 4, 2) := by decide +kernel
theorem d_Lw_law_502 : decode code 502 = .ok (.iconst 1, 1) := by decide +kernel
theorem d_Lw_law_503 : decode code 503 = .ok (.iadd, 1) := by decide +kernel
theorem d_Lw_law_504 : decode code 504 = .ok (.iaload, 1) := by decide +kernel
theorem d_Lw_law_505 : decode code 505 = .ok (.aload_n 0, 1) := by decide +kernel
theorem d_Lw_law_506 : decode code 506 = .ok (.iload 4, 2) := by decide +kernel
theorem d_Lw_law_508 : decode code 508 = .ok (.iconst 2, 1) := by decide +kernel
theorem d_Lw_law_509 : decode code 509 = .ok (.iadd, 1) := by decide +kernel
theorem d_Lw_law_510 : decode code 510 = .ok (.iaload, 1) := by decide +kernel
theorem d_Lw_law_511 : decode code 511 = .ok (.invokevirtual 81, 3) := by decide +kernel
theorem d_Lw_law_514 : decode code 514 = .ok (.istore 6, 2) := by decide +kernel
theorem d_Lw_law_516 : decode code 516 = .ok (.aload_n 2, 1) := by decide +kernel
theorem d_Lw_law_517 : decode code 517 = .ok (.invokevirtual 60, 3) := by decide +kernel
theorem d_Lw_law_520 : decode code 520 = .ok (.iload 5, 2) := by decide +kernel
theorem d_Lw_law_522 : decode code 522 = .ok (.if_icmp .eq 5, 3) := by decide +kernel
theorem d_Lw_law_525 : decode code 525 = .ok (.iconst 0, 1) := by decide +kernel
theorem d_Lw_law_526 : decode code 526 = .ok (.ireturn, 1) := by decide +kernel
theorem d_Lw_law_527 : decode code 527 = .ok (.iload 5, 2) := by decide +kernel
theorem d_Lw_law_529 : decode code 529 = .ok (.ifCond .ne 15, 3) := by decide +kernel
theorem d_Lw_law_532 : decode code 532 = .ok (.aload_n 3, 1) := by decide +kernel
theorem d_Lw_law_533 : decode code 533 = .ok (.iconst 0, 1) := by decide +kernel
theorem d_Lw_law_534 : decode code 534 = .ok (.laload, 1) := by decide +kernel
theorem d_Lw_law_535 : decode code 535 = .ok (.iload 6, 2) := by decide +kernel
theorem d_Lw_law_537 : decode code 537 = .ok (.i2l, 1) := by decide +kernel
theorem d_Lw_law_538 : decode code 538 = .ok (.lcmp, 1) := by decide +kernel
theorem d_Lw_law_539 : decode code 539 = .ok (.ifCond .eq 5, 3) := by decide +kernel
theorem d_Lw_law_542 : decode code 542 = .ok (.iconst 0, 1) := by decide +kernel
theorem d_Lw_law_543 : decode code 543 = .ok (.ireturn, 1) := by decide +kernel
theorem d_Lw_law_544 : decode code 544 = .ok (.goto 306, 3) := by decide +kernel
theorem d_Lw_law_547 : decode code 547 = .ok (.aload_n 1, 1) := by decide +kernel
theorem d_Lw_law_548 : decode code 548 = .ok (.aload_n 0, 1) := by decide +kernel
theorem d_Lw_law_549 : decode code 549 = .ok (.iload 4, 2) := by decide +kernel
theorem d_Lw_law_551 : decode code 551 = .ok (.iconst 1, 1) := by decide +kernel
theorem d_Lw_law_552 : decode code 552 = .ok (.iadd, 1) := by decide +kernel
theorem d_Lw_law_553 : decode code 553 = .ok (.iaload, 1) := by decide +kernel
theorem d_Lw_law_554 : decode code 554 = .ok (.invokevirtual 82, 3) := by decide +kernel
theorem d_Lw_law_557 : decode code 557 = .ok (.aload_n 2, 1) := by decide +kernel
theorem d_Lw_law_558 : decode code 558 = .ok (.aload_n 0, 1) := by decide +kernel
theorem d_Lw_law_559 : decode code 559 = .ok (.iload 4, 2) := by decide +kernel
theorem d_Lw_law_561 : decode code 561 = .ok (.iconst 1, 1) := by decide +kernel
theorem d_Lw_law_562 : decode code 562 = .ok (.iadd, 1) := by decide +kernel
theorem d_Lw_law_563 : decode code 563 = .ok (.iaload, 1) := by decide +kernel
theorem d_Lw_law_564 : decode code 564 = .ok (.invokevirtual 85, 3) := by decide +kernel
theorem d_Lw_law_567 : decode code 567 = .ok (.if_icmp .eq 283, 3) := by decide +kernel
theorem d_Lw_law_570 : decode code 570 = .ok (.iconst 0, 1) := by decide +kernel
theorem d_Lw_law_571 : decode code 571 = .ok (.ireturn, 1) := by decide +kernel
theorem d_Lw_law_572 : decode code 572 = .ok (.aload_n 1, 1) := by decide +kernel
theorem d_Lw_law_573 : decode code 573 = .ok (.aload_n 0, 1) := by decide +kernel
theorem d_Lw_law_574 : decode code 574 = .ok (.iload 4, 2) := by decide +kernel
theorem d_Lw_law_576 : decode code 576 = .ok (.iconst 1, 1) := by decide +kernel
theorem d_Lw_law_577 : decode code 577 = .ok (.iadd, 1) := by decide +kernel
theorem d_Lw_law_578 : decode code 578 = .ok (.iaload, 1) := by decide +kernel
theorem d_Lw_law_579 : decode code 579 = .ok (.aload_n 0, 1) := by decide +kernel
theorem d_Lw_law_580 : decode code 580 = .ok (.iload 4, 2) := by decide +kernel
theorem d_Lw_law_582 : decode code 582 = .ok (.iconst 2, 1) := by decide +kernel
theorem d_Lw_law_583 : decode code 583 = .ok (.iadd, 1) := by decide +kernel
theorem d_Lw_law_584 : decode code 584 = .ok (.iaload, 1) := by decide +kernel
theorem d_Lw_law_585 : decode code 585 = .ok (.aload_n 0, 1) := by decide +kernel
theorem d_Lw_law_586 : decode code 586 = .ok (.iload 4, 2) := by decide +kernel
theorem d_Lw_law_588 : decode code 588 = .ok (.iconst 3, 1) := by decide +kernel
theorem d_Lw_law_589 : decode code 589 = .ok (.iadd, 1) := by decide +kernel
theorem d_Lw_law_590 : decode code 590 = .ok (.iaload, 1) := by decide +kernel
theorem d_Lw_law_591 : decode code 591 = .ok (.aload_n 3, 1) := by decide +kernel
theorem d_Lw_law_592 : decode code 592 = .ok (.invokestatic 86, 3) := by decide +kernel
theorem d_Lw_law_595 : decode code 595 = .ok (.istore 5, 2) := by decide +kernel
theorem d_Lw_law_597 : decode code 597 = .ok (.aload_n 2, 1) := by decide +kernel
theorem d_Lw_law_598 : decode code 598 = .ok (.aload_n 0, 1) := by decide +kernel
theorem d_Lw_law_599 : decode code 599 = .ok (.iload 4, 2) := by decide +kernel
theorem d_Lw_law_601 : decode code 601 = .ok (.iconst 1, 1) := by decide +kernel
theorem d_Lw_law_602 : decode code 602 = .ok (.iadd, 1) := by decide +kernel
theorem d_Lw_law_603 : decode code 603 = .ok (.iaload, 1) := by decide +kernel
theorem d_Lw_law_604 : decode code 604 = .ok (.aload_n 0, 1) := by decide +kernel
theorem d_Lw_law_605 : decode code 605 = .ok (.iload 4, 2) := by decide +kernel
theorem d_Lw_law_607 : decode code 607 = .ok (.iconst 2, 1) := by decide +kernel
theorem d_Lw_law_608 : decode code 608 = .ok (.iadd, 1) := by decide +kernel
theorem d_Lw_law_609 : decode code 609 = .ok (.iaload, 1) := by decide +kernel
theorem d_Lw_law_610 : decode code 610 = .ok (.aload_n 0, 1) := by decide +kernel
theorem d_Lw_law_611 : decode code 611 = .ok (.iload 4, 2) := by decide +kernel
theorem d_Lw_law_613 : decode code 613 = .ok (.iconst 3, 1) := by decide +kernel
theorem d_Lw_law_614 : decode code 614 = .ok (.iadd, 1) := by decide +kernel
theorem d_Lw_law_615 : decode code 615 = .ok (.iaload, 1) := by decide +kernel
theorem d_Lw_law_616 : decode code 616 = .ok (.invokevirtual 88, 3) := by decide +kernel
theorem d_Lw_law_619 : decode code 619 = .ok (.istore 6, 2) := by decide +kernel
theorem d_Lw_law_621 : decode code 621 = .ok (.aload_n 2, 1) := by decide +kernel
theorem d_Lw_law_622 : decode code 622 = .ok (.invokevirtual 60, 3) := by decide +kernel
theorem d_Lw_law_625 : decode code 625 = .ok (.iload 5, 2) := by decide +kernel
theorem d_Lw_law_627 : decode code 627 = .ok (.if_icmp .eq 5, 3) := by decide +kernel
theorem d_Lw_law_630 : decode code 630 = .ok (.iconst 0, 1) := by decide +kernel
theorem d_Lw_law_631 : decode code 631 = .ok (.ireturn, 1) := by decide +kernel
theorem d_Lw_law_632 : decode code 632 = .ok (.iload 5, 2) := by decide +kernel
theorem d_Lw_law_634 : decode code 634 = .ok (.ifCond .ne 15, 3) := by decide +kernel
theorem d_Lw_law_637 : decode code 637 = .ok (.aload_n 3, 1) := by decide +kernel
theorem d_Lw_law_638 : decode code 638 = .ok (.iconst 0, 1) := by decide +kernel
theorem d_Lw_law_639 : decode code 639 = .ok (.laload, 1) := by decide +kernel
theorem d_Lw_law_640 : decode code 640 = .ok (.iload 6, 2) := by decide +kernel
theorem d_Lw_law_642 : decode code 642 = .ok (.i2l, 1) := by decide +kernel
theorem d_Lw_law_643 : decode code 643 = .ok (.lcmp, 1) := by decide +kernel
theorem d_Lw_law_644 : decode code 644 = .ok (.ifCond .eq 5, 3) := by decide +kernel
theorem d_Lw_law_647 : decode code 647 = .ok (.iconst 0, 1) := by decide +kernel
theorem d_Lw_law_648 : decode code 648 = .ok (.ireturn, 1) := by decide +kernel
theorem d_Lw_law_649 : decode code 649 = .ok (.goto 201, 3) := by decide +kernel
theorem d_Lw_law_652 : decode code 652 = .ok (.aload_n 1, 1) := by decide +kernel
theorem d_Lw_law_653 : decode code 653 = .ok (.aload_n 0, 1) := by decide +kernel
theorem d_Lw_law_654 : decode code 654 = .ok (.iload 4, 2) := by decide +kernel
theorem d_Lw_law_656 : decode code 656 = .ok (.iconst 1, 1) := by decide +kernel
theorem d_Lw_law_657 : decode code 657 = .ok (.iadd, 1) := by decide +kernel
theorem d_Lw_law_658 : decode code 658 = .ok (.iaload, 1) := by decide +kernel
theorem d_Lw_law_659 : decode code 659 = .ok (.invokestatic 89, 3) := by decide +kernel
theorem d_Lw_law_662 : decode code 662 = .ok (.istore 5, 2) := by decide +kernel
theorem d_Lw_law_664 : decode code 664 = .ok (.aload_n 2, 1) := by decide +kernel
theorem d_Lw_law_665 : decode code 665 = .ok (.aload_n 0, 1) := by decide +kernel
theorem d_Lw_law_666 : decode code 666 = .ok (.iload 4, 2) := by decide +kernel
theorem d_Lw_law_668 : decode code 668 = .ok (.iconst 1, 1) := by decide +kernel
theorem d_Lw_law_669 : decode code 669 = .ok (.iadd, 1) := by decide +kernel
theorem d_Lw_law_670 : decode code 670 = .ok (.iaload, 1) := by decide +kernel
theorem d_Lw_law_671 : decode code 671 = .ok (.invokevirtual 92, 3) := by decide +kernel
theorem d_Lw_law_674 : decode code 674 = .ok (.aload_n 2, 1) := by decide +kernel
theorem d_Lw_law_675 : decode code 675 = .ok (.invokevirtual 60, 3) := by decide +kernel
theorem d_Lw_law_678 : decode code 678 = .ok (.iload 5, 2) := by decide +kernel
theorem d_Lw_law_680 : decode code 680 = .ok (.if_icmp .eq 5, 3) := by decide +kernel
theorem d_Lw_law_683 : decode code 683 = .ok (.iconst 0, 1) := by decide +kernel
theorem d_Lw_law_684 : decode code 684 = .ok (.ireturn, 1) := by decide +kernel
theorem d_Lw_law_685 : decode code 685 = .ok (.goto 165, 3) := by decide +kernel
theorem d_Lw_law_688 : decode code 688 = .ok (.aload_n 1, 1) := by decide +kernel
theorem d_Lw_law_689 : decode code 689 = .ok (.aload_n 0, 1) := by decide +kernel
theorem d_Lw_law_690 : decode code 690 = .ok (.iload 4, 2) := by decide +kernel
theorem d_Lw_law_692 : decode code 692 = .ok (.iconst 1, 1) := by decide +kernel
theorem d_Lw_law_693 : decode code 693 = .ok (.iadd, 1) := by decide +kernel
theorem d_Lw_law_694 : decode code 694 = .ok (.iaload, 1) := by decide +kernel
theorem d_Lw_law_695 : decode code 695 = .ok (.aload_n 3, 1) := by decide +kernel
theorem d_Lw_law_696 : decode code 696 = .ok (.invokestatic 93, 3) := by decide +kernel
theorem d_Lw_law_699 : decode code 699 = .ok (.istore 5, 2) := by decide +kernel
theorem d_Lw_law_701 : decode code 701 = .ok (.aload_n 2, 1) := by decide +kernel
theorem d_Lw_law_702 : decode code 702 = .ok (.aload_n 0, 1) := by decide +kernel
theorem d_Lw_law_703 : decode code 703 = .ok (.iload 4, 2) := by decide +kernel
theorem d_Lw_law_705 : decode code 705 = .ok (.iconst 1, 1) := by decide +kernel
theorem d_Lw_law_706 : decode code 706 = .ok (.iadd, 1) := by decide +kernel
theorem d_Lw_law_707 : decode code 707 = .ok (.iaload, 1) := by decide +kernel
theorem d_Lw_law_708 : decode code 708 = .ok (.invokevirtual 95, 3) := by decide +kernel
theorem d_Lw_law_711 : decode code 711 = .ok (.istore 6, 2) := by decide +kernel
theorem d_Lw_law_713 : decode code 713 = .ok (.aload_n 2, 1) := by decide +kernel
theorem d_Lw_law_714 : decode code 714 = .ok (.invokevirtual 60, 3) := by decide +kernel
theorem d_Lw_law_717 : decode code 717 = .ok (.iload 5, 2) := by decide +kernel
theorem d_Lw_law_719 : decode code 719 = .ok (.if_icmp .eq 5, 3) := by decide +kernel
theorem d_Lw_law_722 : decode code 722 = .ok (.iconst 0, 1) := by decide +kernel
theorem d_Lw_law_723 : decode code 723 = .ok (.ireturn, 1) := by decide +kernel
theorem d_Lw_law_724 : decode code 724 = .ok (.iload 5, 2) := by decide +kernel
theorem d_Lw_law_726 : decode code 726 = .ok (.ifCond .ne 15, 3) := by decide +kernel
theorem d_Lw_law_729 : decode code 729 = .ok (.aload_n 3, 1) := by decide +kernel
theorem d_Lw_law_730 : decode code 730 = .ok (.iconst 0, 1) := by decide +kernel
theorem d_Lw_law_731 : decode code 731 = .ok (.laload, 1) := by decide +kernel
theorem d_Lw_law_732 : decode code 732 = .ok (.iload 6, 2) := by decide +kernel
theorem d_Lw_law_734 : decode code 734 = .ok (.i2l, 1) := by decide +kernel
theorem d_Lw_law_735 : decode code 735 = .ok (.lcmp, 1) := by decide +kernel
theorem d_Lw_law_736 : decode code 736 = .ok (.ifCond .eq 5, 3) := by decide +kernel
theorem d_Lw_law_739 : decode code 739 = .ok (.iconst 0, 1) := by decide +kernel
theorem d_Lw_law_740 : decode code 740 = .ok (.ireturn, 1) := by decide +kernel
theorem d_Lw_law_741 : decode code 741 = .ok (.goto 109, 3) := by decide +kernel
theorem d_Lw_law_744 : decode code 744 = .ok (.aload_n 1, 1) := by decide +kernel
theorem d_Lw_law_745 : decode code 745 = .ok (.aload_n 0, 1) := by decide +kernel
theorem d_Lw_law_746 : decode code 746 = .ok (.iload 4, 2) := by decide +kernel
theorem d_Lw_law_748 : decode code 748 = .ok (.iconst 1, 1) := by decide +kernel
theorem d_Lw_law_749 : decode code 749 = .ok (.iadd, 1) := by decide +kernel
theorem d_Lw_law_750 : decode code 750 = .ok (.iaload, 1) := by decide +kernel
theorem d_Lw_law_751 : decode code 751 = .ok (.aload_n 3, 1) := by decide +kernel
theorem d_Lw_law_752 : decode code 752 = .ok (.invokestatic 96, 3) := by decide +kernel
theorem d_Lw_law_755 : decode code 755 = .ok (.istore 5, 2) := by decide +kernel
theorem d_Lw_law_757 : decode code 757 = .ok (.aload_n 2, 1) := by decide +kernel
theorem d_Lw_law_758 : decode code 758 = .ok (.aload_n 0, 1) := by decide +kernel
theorem d_Lw_law_759 : decode code 759 = .ok (.iload 4, 2) := by decide +kernel
theorem d_Lw_law_761 : decode code 761 = .ok (.iconst 1, 1) := by decide +kernel
theorem d_Lw_law_762 : decode code 762 = .ok (.iadd, 1) := by decide +kernel
theorem d_Lw_law_763 : decode code 763 = .ok (.iaload, 1) := by decide +kernel
theorem d_Lw_law_764 : decode code 764 = .ok (.invokevirtual 98, 3) := by decide +kernel
theorem d_Lw_law_767 : decode code 767 = .ok (.istore 6, 2) := by decide +kernel
theorem d_Lw_law_769 : decode code 769 = .ok (.aload_n 2, 1) := by decide +kernel
theorem d_Lw_law_770 : decode code 770 = .ok (.invokevirtual 60, 3) := by decide +kernel
theorem d_Lw_law_773 : decode code 773 = .ok (.iload 5, 2) := by decide +kernel
theorem d_Lw_law_775 : decode code 775 = .ok (.if_icmp .eq 5, 3) := by decide +kernel
theorem d_Lw_law_778 : decode code 778 = .ok (.iconst 0, 1) := by decide +kernel
theorem d_Lw_law_779 : decode code 779 = .ok (.ireturn, 1) := by decide +kernel
theorem d_Lw_law_780 : decode code 780 = .ok (.iload 5, 2) := by decide +kernel
theorem d_Lw_law_782 : decode code 782 = .ok (.ifCond .ne 15, 3) := by decide +kernel
theorem d_Lw_law_785 : decode code 785 = .ok (.aload_n 3, 1) := by decide +kernel
theorem d_Lw_law_786 : decode code 786 = .ok (.iconst 0, 1) := by decide +kernel
theorem d_Lw_law_787 : decode code 787 = .ok (.laload, 1) := by decide +kernel
theorem d_Lw_law_788 : decode code 788 = .ok (.iload 6, 2) := by decide +kernel
theorem d_Lw_law_790 : decode code 790 = .ok (.i2l, 1) := by decide +kernel
theorem d_Lw_law_791 : decode code 791 = .ok (.lcmp, 1) := by decide +kernel
theorem d_Lw_law_792 : decode code 792 = .ok (.ifCond .eq 5, 3) := by decide +kernel
theorem d_Lw_law_795 : decode code 795 = .ok (.iconst 0, 1) := by decide +kernel
theorem d_Lw_law_796 : decode code 796 = .ok (.ireturn, 1) := by decide +kernel
theorem d_Lw_law_797 : decode code 797 = .ok (.goto 53, 3) := by decide +kernel
theorem d_Lw_law_800 : decode code 800 = .ok (.aload_n 1, 1) := by decide +kernel
theorem d_Lw_law_801 : decode code 801 = .ok (.aload_n 0, 1) := by decide +kernel
theorem d_Lw_law_802 : decode code 802 = .ok (.iload 4, 2) := by decide +kernel
theorem d_Lw_law_804 : decode code 804 = .ok (.iconst 1, 1) := by decide +kernel
theorem d_Lw_law_805 : decode code 805 = .ok (.iadd, 1) := by decide +kernel
theorem d_Lw_law_806 : decode code 806 = .ok (.iaload, 1) := by decide +kernel
theorem d_Lw_law_807 : decode code 807 = .ok (.invokevirtual 99, 3) := by decide +kernel
theorem d_Lw_law_810 : decode code 810 = .ok (.aload_n 2, 1) := by decide +kernel
theorem d_Lw_law_811 : decode code 811 = .ok (.aload_n 0, 1) := by decide +kernel
theorem d_Lw_law_812 : decode code 812 = .ok (.iload 4, 2) := by decide +kernel
theorem d_Lw_law_814 : decode code 814 = .ok (.iconst 1, 1) := by decide +kernel
theorem d_Lw_law_815 : decode code 815 = .ok (.iadd, 1) := by decide +kernel
theorem d_Lw_law_816 : decode code 816 = .ok (.iaload, 1) := by decide +kernel
theorem d_Lw_law_817 : decode code 817 = .ok (.invokevirtual 102, 3) := by decide +kernel
theorem d_Lw_law_820 : decode code 820 = .ok (.if_icmp .eq 30, 3) := by decide +kernel
theorem d_Lw_law_823 : decode code 823 = .ok (.iconst 0, 1) := by decide +kernel
theorem d_Lw_law_824 : decode code 824 = .ok (.ireturn, 1) := by decide +kernel
theorem d_Lw_law_825 : decode code 825 = .ok (.aload_n 1, 1) := by decide +kernel
theorem d_Lw_law_826 : decode code 826 = .ok (.aload_n 0, 1) := by decide +kernel
theorem d_Lw_law_827 : decode code 827 = .ok (.iload 4, 2) := by decide +kernel
theorem d_Lw_law_829 : decode code 829 = .ok (.iconst 1, 1) := by decide +kernel
theorem d_Lw_law_830 : decode code 830 = .ok (.iadd, 1) := by decide +kernel
theorem d_Lw_law_831 : decode code 831 = .ok (.iaload, 1) := by decide +kernel
theorem d_Lw_law_832 : decode code 832 = .ok (.invokevirtual 103, 3) := by decide +kernel
theorem d_Lw_law_835 : decode code 835 = .ok (.aload_n 2, 1) := by decide +kernel
theorem d_Lw_law_836 : decode code 836 = .ok (.aload_n 0, 1) := by decide +kernel
theorem d_Lw_law_837 : decode code 837 = .ok (.iload 4, 2) := by decide +kernel
theorem d_Lw_law_839 : decode code 839 = .ok (.iconst 1, 1) := by decide +kernel
theorem d_Lw_law_840 : decode code 840 = .ok (.iadd, 1) := by decide +kernel
theorem d_Lw_law_841 : decode code 841 = .ok (.iaload, 1) := by decide +kernel
theorem d_Lw_law_842 : decode code 842 = .ok (.invokevirtual 106, 3) := by decide +kernel
theorem d_Lw_law_845 : decode code 845 = .ok (.if_icmp .eq 5, 3) := by decide +kernel
theorem d_Lw_law_848 : decode code 848 = .ok (.iconst 0, 1) := by decide +kernel
theorem d_Lw_law_849 : decode code 849 = .ok (.ireturn, 1) := by decide +kernel
theorem d_Lw_law_850 : decode code 850 = .ok (.iinc 4 4, 3) := by decide +kernel
theorem d_Lw_law_853 : decode code 853 = .ok (.goto (-830), 3) := by decide +kernel
theorem d_Lw_law_856 : decode code 856 = .ok (.iconst 1, 1) := by decide +kernel
theorem d_Lw_law_857 : decode code 857 = .ok (.ireturn, 1) := by decide +kernel
