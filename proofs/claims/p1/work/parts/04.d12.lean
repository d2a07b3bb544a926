theorem dX12_init_0 : decode cX12_init 0 = .ok (.aload_n 0, 1) := by decide +kernel
theorem dX12_init_1 : decode cX12_init 1 = .ok (.invokespecial 1, 3) := by decide +kernel
theorem dX12_init_4 : decode cX12_init 4 = .ok (.aload_n 0, 1) := by decide +kernel
theorem dX12_init_5 : decode cX12_init 5 = .ok (.sipush 4000, 3) := by decide +kernel
theorem dX12_init_8 : decode cX12_init 8 = .ok (.newarray .int, 2) := by decide +kernel
theorem dX12_init_10 : decode cX12_init 10 = .ok (.putfield 9, 3) := by decide +kernel
theorem dX12_init_13 : decode cX12_init 13 = .ok (.aload_n 0, 1) := by decide +kernel
theorem dX12_init_14 : decode cX12_init 14 = .ok (.sipush 4000, 3) := by decide +kernel
theorem dX12_init_17 : decode cX12_init 17 = .ok (.newarray .int, 2) := by decide +kernel
theorem dX12_init_19 : decode cX12_init 19 = .ok (.putfield 13, 3) := by decide +kernel
theorem dX12_init_22 : decode cX12_init 22 = .ok (.aload_n 0, 1) := by decide +kernel
theorem dX12_init_23 : decode cX12_init 23 = .ok (.sipush 4002, 3) := by decide +kernel
theorem dX12_init_26 : decode cX12_init 26 = .ok (.newarray .int, 2) := by decide +kernel
theorem dX12_init_28 : decode cX12_init 28 = .ok (.putfield 16, 3) := by decide +kernel
theorem dX12_init_31 : decode cX12_init 31 = .ok (.aload_n 0, 1) := by decide +kernel
theorem dX12_init_32 : decode cX12_init 32 = .ok (.sipush 4002, 3) := by decide +kernel
theorem dX12_init_35 : decode cX12_init 35 = .ok (.newarray .int, 2) := by decide +kernel
theorem dX12_init_37 : decode cX12_init 37 = .ok (.putfield 19, 3) := by decide +kernel
theorem dX12_init_40 : decode cX12_init 40 = .ok (.aload_n 0, 1) := by decide +kernel
theorem dX12_init_41 : decode cX12_init 41 = .ok (.sipush 4002, 3) := by decide +kernel
theorem dX12_init_44 : decode cX12_init 44 = .ok (.newarray .int, 2) := by decide +kernel
theorem dX12_init_46 : decode cX12_init 46 = .ok (.putfield 22, 3) := by decide +kernel
theorem dX12_init_49 : decode cX12_init 49 = .ok (.aload_n 0, 1) := by decide +kernel
theorem dX12_init_50 : decode cX12_init 50 = .ok (.sipush 2100, 3) := by decide +kernel
theorem dX12_init_53 : decode cX12_init 53 = .ok (.newarray .int, 2) := by decide +kernel
theorem dX12_init_55 : decode cX12_init 55 = .ok (.putfield 25, 3) := by decide +kernel
theorem dX12_init_58 : decode cX12_init 58 = .ok (.aload_n 0, 1) := by decide +kernel
theorem dX12_init_59 : decode cX12_init 59 = .ok (.sipush 2100, 3) := by decide +kernel
theorem dX12_init_62 : decode cX12_init 62 = .ok (.newarray .int, 2) := by decide +kernel
theorem dX12_init_64 : decode cX12_init 64 = .ok (.putfield 28, 3) := by decide +kernel
theorem dX12_init_67 : decode cX12_init 67 = .ok (.aload_n 0, 1) := by decide +kernel
theorem dX12_init_68 : decode cX12_init 68 = .ok (.sipush 2100, 3) := by decide +kernel
theorem dX12_init_71 : decode cX12_init 71 = .ok (.newarray .int, 2) := by decide +kernel
theorem dX12_init_73 : decode cX12_init 73 = .ok (.putfield 31, 3) := by decide +kernel
theorem dX12_init_76 : decode cX12_init 76 = .ok (.aload_n 0, 1) := by decide +kernel
theorem dX12_init_77 : decode cX12_init 77 = .ok (.bipush 64, 2) := by decide +kernel
theorem dX12_init_79 : decode cX12_init 79 = .ok (.newarray .int, 2) := by decide +kernel
theorem dX12_init_81 : decode cX12_init 81 = .ok (.putfield 34, 3) := by decide +kernel
theorem dX12_init_84 : decode cX12_init 84 = .ok (.aload_n 0, 1) := by decide +kernel
theorem dX12_init_85 : decode cX12_init 85 = .ok (.sipush 900, 3) := by decide +kernel
theorem dX12_init_88 : decode cX12_init 88 = .ok (.newarray .int, 2) := by decide +kernel
theorem dX12_init_90 : decode cX12_init 90 = .ok (.putfield 37, 3) := by decide +kernel
theorem dX12_init_93 : decode cX12_init 93 = .ok (.aload_n 0, 1) := by decide +kernel
theorem dX12_init_94 : decode cX12_init 94 = .ok (.sipush 900, 3) := by decide +kernel
theorem dX12_init_97 : decode cX12_init 97 = .ok (.newarray .int, 2) := by decide +kernel
theorem dX12_init_99 : decode cX12_init 99 = .ok (.putfield 40, 3) := by decide +kernel
theorem dX12_init_102 : decode cX12_init 102 = .ok (.aload_n 0, 1) := by decide +kernel
theorem dX12_init_103 : decode cX12_init 103 = .ok (.sipush 900, 3) := by decide +kernel
theorem dX12_init_106 : decode cX12_init 106 = .ok (.newarray .int, 2) := by decide +kernel
theorem dX12_init_108 : decode cX12_init 108 = .ok (.putfield 43, 3) := by decide +kernel
theorem dX12_init_111 : decode cX12_init 111 = .ok (.aload_n 0, 1) := by decide +kernel
theorem dX12_init_112 : decode cX12_init 112 = .ok (.sipush 900, 3) := by decide +kernel
theorem dX12_init_115 : decode cX12_init 115 = .ok (.newarray .int, 2) := by decide +kernel
theorem dX12_init_117 : decode cX12_init 117 = .ok (.putfield 46, 3) := by decide +kernel
theorem dX12_init_120 : decode cX12_init 120 = .ok (.aload_n 0, 1) := by decide +kernel
theorem dX12_init_121 : decode cX12_init 121 = .ok (.sipush 900, 3) := by decide +kernel
theorem dX12_init_124 : decode cX12_init 124 = .ok (.newarray .int, 2) := by decide +kernel
theorem dX12_init_126 : decode cX12_init 126 = .ok (.putfield 49, 3) := by decide +kernel
theorem dX12_init_129 : decode cX12_init 129 = .ok (.aload_n 0, 1) := by decide +kernel
theorem dX12_init_130 : decode cX12_init 130 = .ok (.sipush 900, 3) := by decide +kernel
theorem dX12_init_133 : decode cX12_init 133 = .ok (.newarray .int, 2) := by decide +kernel
theorem dX12_init_135 : decode cX12_init 135 = .ok (.putfield 52, 3) := by decide +kernel
theorem dX12_init_138 : decode cX12_init 138 = .ok (.aload_n 0, 1) := by decide +kernel
theorem dX12_init_139 : decode cX12_init 139 = .ok (.sipush 900, 3) := by decide +kernel
theorem dX12_init_142 : decode cX12_init 142 = .ok (.newarray .boolean, 2) := by decide +kernel
theorem dX12_init_144 : decode cX12_init 144 = .ok (.putfield 55, 3) := by decide +kernel
theorem dX12_init_147 : decode cX12_init 147 = .ok (.aload_n 0, 1) := by decide +kernel
theorem dX12_init_148 : decode cX12_init 148 = .ok (.sipush 900, 3) := by decide +kernel
theorem dX12_init_151 : decode cX12_init 151 = .ok (.newarray .boolean, 2) := by decide +kernel
theorem dX12_init_153 : decode cX12_init 153 = .ok (.putfield 59, 3) := by decide +kernel
theorem dX12_init_156 : decode cX12_init 156 = .ok (.aload_n 0, 1) := by decide +kernel
theorem dX12_init_157 : decode cX12_init 157 = .ok (.sipush 500, 3) := by decide +kernel
theorem dX12_init_160 : decode cX12_init 160 = .ok (.newarray .int, 2) := by decide +kernel
theorem dX12_init_162 : decode cX12_init 162 = .ok (.putfield 62, 3) := by decide +kernel
theorem dX12_init_165 : decode cX12_init 165 = .ok (.aload_n 0, 1) := by decide +kernel
theorem dX12_init_166 : decode cX12_init 166 = .ok (.sipush 500, 3) := by decide +kernel
theorem dX12_init_169 : decode cX12_init 169 = .ok (.newarray .int, 2) := by decide +kernel
theorem dX12_init_171 : decode cX12_init 171 = .ok (.putfield 65, 3) := by decide +kernel
theorem dX12_init_174 : decode cX12_init 174 = .ok (.aload_n 0, 1) := by decide +kernel
theorem dX12_init_175 : decode cX12_init 175 = .ok (.sipush 500, 3) := by decide +kernel
theorem dX12_init_178 : decode cX12_init 178 = .ok (.newarray .int, 2) := by decide +kernel
theorem dX12_init_180 : decode cX12_init 180 = .ok (.putfield 68, 3) := by decide +kernel
theorem dX12_init_183 : decode cX12_init 183 = .ok (.aload_n 0, 1) := by decide +kernel
theorem dX12_init_184 : decode cX12_init 184 = .ok (.sipush 500, 3) := by decide +kernel
theorem dX12_init_187 : decode cX12_init 187 = .ok (.newarray .int, 2) := by decide +kernel
theorem dX12_init_189 : decode cX12_init 189 = .ok (.putfield 71, 3) := by decide +kernel
theorem dX12_init_192 : decode cX12_init 192 = .ok (.aload_n 0, 1) := by decide +kernel
theorem dX12_init_193 : decode cX12_init 193 = .ok (.sipush 500, 3) := by decide +kernel
theorem dX12_init_196 : decode cX12_init 196 = .ok (.newarray .int, 2) := by decide +kernel
theorem dX12_init_198 : decode cX12_init 198 = .ok (.putfield 74, 3) := by decide +kernel
theorem dX12_init_201 : decode cX12_init 201 = .ok (.aload_n 0, 1) := by decide +kernel
theorem dX12_init_202 : decode cX12_init 202 = .ok (.sipush 500, 3) := by decide +kernel
theorem dX12_init_205 : decode cX12_init 205 = .ok (.newarray .int, 2) := by decide +kernel
theorem dX12_init_207 : decode cX12_init 207 = .ok (.putfield 77, 3) := by decide +kernel
theorem dX12_init_210 : decode cX12_init 210 = .ok (.aload_n 0, 1) := by decide +kernel
theorem dX12_init_211 : decode cX12_init 211 = .ok (.sipush 500, 3) := by decide +kernel
theorem dX12_init_214 : decode cX12_init 214 = .ok (.newarray .int, 2) := by decide +kernel
theorem dX12_init_216 : decode cX12_init 216 = .ok (.putfield 80, 3) := by decide +kernel
theorem dX12_init_219 : decode cX12_init 219 = .ok (.aload_n 0, 1) := by decide +kernel
theorem dX12_init_220 : decode cX12_init 220 = .ok (.sipush 500, 3) := by decide +kernel
theorem dX12_init_223 : decode cX12_init 223 = .ok (.newarray .int, 2) := by decide +kernel
theorem dX12_init_225 : decode cX12_init 225 = .ok (.putfield 83, 3) := by decide +kernel
theorem dX12_init_228 : decode cX12_init 228 = .ok (.aload_n 0, 1) := by decide +kernel
theorem dX12_init_229 : decode cX12_init 229 = .ok (.sipush 500, 3) := by decide +kernel
theorem dX12_init_232 : decode cX12_init 232 = .ok (.newarray .boolean, 2) := by decide +kernel
theorem dX12_init_234 : decode cX12_init 234 = .ok (.putfield 86, 3) := by decide +kernel
theorem dX12_init_237 : decode cX12_init 237 = .ok (.aload_n 0, 1) := by decide +kernel
theorem dX12_init_238 : decode cX12_init 238 = .ok (.sipush 900, 3) := by decide +kernel
theorem dX12_init_241 : decode cX12_init 241 = .ok (.newarray .int, 2) := by decide +kernel
theorem dX12_init_243 : decode cX12_init 243 = .ok (.putfield 89, 3) := by decide +kernel
theorem dX12_init_246 : decode cX12_init 246 = .ok (.aload_n 0, 1) := by decide +kernel
theorem dX12_init_247 : decode cX12_init 247 = .ok (.sipush 2001, 3) := by decide +kernel
theorem dX12_init_250 : decode cX12_init 250 = .ok (.newarray .int, 2) := by decide +kernel
theorem dX12_init_252 : decode cX12_init 252 = .ok (.putfield 92, 3) := by decide +kernel
theorem dX12_init_255 : decode cX12_init 255 = .ok (.aload_n 0, 1) := by decide +kernel
theorem dX12_init_256 : decode cX12_init 256 = .ok (.sipush 2001, 3) := by decide +kernel
theorem dX12_init_259 : decode cX12_init 259 = .ok (.newarray .int, 2) := by decide +kernel
theorem dX12_init_261 : decode cX12_init 261 = .ok (.putfield 95, 3) := by decide +kernel
theorem dX12_init_264 : decode cX12_init 264 = .ok (.aload_n 0, 1) := by decide +kernel
theorem dX12_init_265 : decode cX12_init 265 = .ok (.sipush 2001, 3) := by decide +kernel
theorem dX12_init_268 : decode cX12_init 268 = .ok (.newarray .boolean, 2) := by decide +kernel
theorem dX12_init_270 : decode cX12_init 270 = .ok (.putfield 98, 3) := by decide +kernel
theorem dX12_init_273 : decode cX12_init 273 = .ok (.aload_n 0, 1) := by decide +kernel
theorem dX12_init_274 : decode cX12_init 274 = .ok (.sipush 8008, 3) := by decide +kernel
theorem dX12_init_277 : decode cX12_init 277 = .ok (.newarray .int, 2) := by decide +kernel
theorem dX12_init_279 : decode cX12_init 279 = .ok (.putfield 101, 3) := by decide +kernel
theorem dX12_init_282 : decode cX12_init 282 = .ok (.aload_n 0, 1) := by decide +kernel
theorem dX12_init_283 : decode cX12_init 283 = .ok (.sipush 9000, 3) := by decide +kernel
theorem dX12_init_286 : decode cX12_init 286 = .ok (.newarray .int, 2) := by decide +kernel
theorem dX12_init_288 : decode cX12_init 288 = .ok (.putfield 104, 3) := by decide +kernel
theorem dX12_init_291 : decode cX12_init 291 = .ok (.aload_n 0, 1) := by decide +kernel
theorem dX12_init_292 : decode cX12_init 292 = .ok (.sipush 9000, 3) := by decide +kernel
theorem dX12_init_295 : decode cX12_init 295 = .ok (.newarray .int, 2) := by decide +kernel
theorem dX12_init_297 : decode cX12_init 297 = .ok (.putfield 107, 3) := by decide +kernel
theorem dX12_init_300 : decode cX12_init 300 = .ok (.aload_n 0, 1) := by decide +kernel
theorem dX12_init_301 : decode cX12_init 301 = .ok (.sipush 9000, 3) := by decide +kernel
theorem dX12_init_304 : decode cX12_init 304 = .ok (.newarray .int, 2) := by decide +kernel
theorem dX12_init_306 : decode cX12_init 306 = .ok (.putfield 110, 3) := by decide +kernel
theorem dX12_init_309 : decode cX12_init 309 = .ok (.aload_n 0, 1) := by decide +kernel
theorem dX12_init_310 : decode cX12_init 310 = .ok (.sipush 9000, 3) := by decide +kernel
theorem dX12_init_313 : decode cX12_init 313 = .ok (.newarray .int, 2) := by decide +kernel
theorem dX12_init_315 : decode cX12_init 315 = .ok (.putfield 113, 3) := by decide +kernel
theorem dX12_init_318 : decode cX12_init 318 = .ok (.aload_n 0, 1) := by decide +kernel
theorem dX12_init_319 : decode cX12_init 319 = .ok (.sipush 600, 3) := by decide +kernel
theorem dX12_init_322 : decode cX12_init 322 = .ok (.newarray .int, 2) := by decide +kernel
theorem dX12_init_324 : decode cX12_init 324 = .ok (.putfield 116, 3) := by decide +kernel
theorem dX12_init_327 : decode cX12_init 327 = .ok (.aload_n 0, 1) := by decide +kernel
theorem dX12_init_328 : decode cX12_init 328 = .ok (.sipush 600, 3) := by decide +kernel
theorem dX12_init_331 : decode cX12_init 331 = .ok (.newarray .int, 2) := by decide +kernel
theorem dX12_init_333 : decode cX12_init 333 = .ok (.putfield 119, 3) := by decide +kernel
theorem dX12_init_336 : decode cX12_init 336 = .ok (.aload_n 0, 1) := by decide +kernel
theorem dX12_init_337 : decode cX12_init 337 = .ok (.sipush 600, 3) := by decide +kernel
theorem dX12_init_340 : decode cX12_init 340 = .ok (.newarray .int, 2) := by decide +kernel
theorem dX12_init_342 : decode cX12_init 342 = .ok (.putfield 122, 3) := by decide +kernel
theorem dX12_init_345 : decode cX12_init 345 = .ok (.aload_n 0, 1) := by decide +kernel
theorem dX12_init_346 : decode cX12_init 346 = .ok (.ldc 125, 2) := by decide +kernel
theorem dX12_init_348 : decode cX12_init 348 = .ok (.newarray .int, 2) := by decide +kernel
theorem dX12_init_350 : decode cX12_init 350 = .ok (.putfield 126, 3) := by decide +kernel
theorem dX12_init_353 : decode cX12_init 353 = .ok (.aload_n 0, 1) := by decide +kernel
theorem dX12_init_354 : decode cX12_init 354 = .ok (.sipush 500, 3) := by decide +kernel
theorem dX12_init_357 : decode cX12_init 357 = .ok (.newarray .int, 2) := by decide +kernel
theorem dX12_init_359 : decode cX12_init 359 = .ok (.putfield 129, 3) := by decide +kernel
theorem dX12_init_362 : decode cX12_init 362 = .ok (.aload_n 0, 1) := by decide +kernel
theorem dX12_init_363 : decode cX12_init 363 = .ok (.sipush 2000, 3) := by decide +kernel
theorem dX12_init_366 : decode cX12_init 366 = .ok (.newarray .int, 2) := by decide +kernel
theorem dX12_init_368 : decode cX12_init 368 = .ok (.putfield 132, 3) := by decide +kernel
theorem dX12_init_371 : decode cX12_init 371 = .ok (.aload_n 0, 1) := by decide +kernel
theorem dX12_init_372 : decode cX12_init 372 = .ok (.sipush 20000, 3) := by decide +kernel
theorem dX12_init_375 : decode cX12_init 375 = .ok (.newarray .int, 2) := by decide +kernel
theorem dX12_init_377 : decode cX12_init 377 = .ok (.putfield 135, 3) := by decide +kernel
theorem dX12_init_380 : decode cX12_init 380 = .ok (.aload_n 0, 1) := by decide +kernel
theorem dX12_init_381 : decode cX12_init 381 = .ok (.sipush 520, 3) := by decide +kernel
theorem dX12_init_384 : decode cX12_init 384 = .ok (.newarray .int, 2) := by decide +kernel
theorem dX12_init_386 : decode cX12_init 386 = .ok (.putfield 138, 3) := by decide +kernel
theorem dX12_init_389 : decode cX12_init 389 = .ok (.aload_n 0, 1) := by decide +kernel
theorem dX12_init_390 : decode cX12_init 390 = .ok (.sipush 520, 3) := by decide +kernel
theorem dX12_init_393 : decode cX12_init 393 = .ok (.newarray .int, 2) := by decide +kernel
theorem dX12_init_395 : decode cX12_init 395 = .ok (.putfield 141, 3) := by decide +kernel
theorem dX12_init_398 : decode cX12_init 398 = .ok (.aload_n 0, 1) := by decide +kernel
theorem dX12_init_399 : decode cX12_init 399 = .ok (.sipush 520, 3) := by decide +kernel
theorem dX12_init_402 : decode cX12_init 402 = .ok (.newarray .int, 2) := by decide +kernel
theorem dX12_init_404 : decode cX12_init 404 = .ok (.putfield 144, 3) := by decide +kernel
theorem dX12_init_407 : decode cX12_init 407 = .ok (.aload_n 0, 1) := by decide +kernel
theorem dX12_init_408 : decode cX12_init 408 = .ok (.sipush 4096, 3) := by decide +kernel
theorem dX12_init_411 : decode cX12_init 411 = .ok (.newarray .int, 2) := by decide +kernel
theorem dX12_init_413 : decode cX12_init 413 = .ok (.putfield 147, 3) := by decide +kernel
theorem dX12_init_416 : decode cX12_init 416 = .ok (.aload_n 0, 1) := by decide +kernel
theorem dX12_init_417 : decode cX12_init 417 = .ok (.bipush 33, 2) := by decide +kernel
theorem dX12_init_419 : decode cX12_init 419 = .ok (.newarray .int, 2) := by decide +kernel
theorem dX12_init_421 : decode cX12_init 421 = .ok (.putfield 150, 3) := by decide +kernel
theorem dX12_init_424 : decode cX12_init 424 = .ok (.return_, 1) := by decide +kernel
theorem dX12_feed_0 : decode cX12_feed 0 = .ok (.aload_n 0, 1) := by decide +kernel
theorem dX12_feed_1 : decode cX12_feed 1 = .ok (.getfield 153, 3) := by decide +kernel
theorem dX12_feed_4 : decode cX12_feed 4 = .ok (.bipush 20, 2) := by decide +kernel
theorem dX12_feed_6 : decode cX12_feed 6 = .ok (.iadd, 1) := by decide +kernel
theorem dX12_feed_7 : decode cX12_feed 7 = .ok (.sipush 4000, 3) := by decide +kernel
theorem dX12_feed_10 : decode cX12_feed 10 = .ok (.if_icmp .le 5, 3) := by decide +kernel
theorem dX12_feed_15 : decode cX12_feed 15 = .ok (.iconst 0, 1) := by decide +kernel
theorem dX12_feed_16 : decode cX12_feed 16 = .ok (.istore 6, 2) := by decide +kernel
theorem dX12_feed_18 : decode cX12_feed 18 = .ok (.iload 6, 2) := by decide +kernel
theorem dX12_feed_20 : decode cX12_feed 20 = .ok (.bipush 20, 2) := by decide +kernel
theorem dX12_feed_22 : decode cX12_feed 22 = .ok (.if_icmp .ge 86, 3) := by decide +kernel
theorem dX12_feed_25 : decode cX12_feed 25 = .ok (.iload 6, 2) := by decide +kernel
theorem dX12_feed_27 : decode cX12_feed 27 = .ok (.iconst 4, 1) := by decide +kernel
theorem dX12_feed_28 : decode cX12_feed 28 = .ok (.if_icmp .ge 7, 3) := by decide +kernel
theorem dX12_feed_31 : decode cX12_feed 31 = .ok (.iload_n 1, 1) := by decide +kernel
theorem dX12_feed_32 : decode cX12_feed 32 = .ok (.goto 39, 3) := by decide +kernel
theorem dX12_feed_35 : decode cX12_feed 35 = .ok (.iload 6, 2) := by decide +kernel
theorem dX12_feed_37 : decode cX12_feed 37 = .ok (.bipush 8, 2) := by decide +kernel
theorem dX12_feed_39 : decode cX12_feed 39 = .ok (.if_icmp .ge 7, 3) := by decide +kernel
theorem dX12_feed_42 : decode cX12_feed 42 = .ok (.iload_n 2, 1) := by decide +kernel
theorem dX12_feed_43 : decode cX12_feed 43 = .ok (.goto 28, 3) := by decide +kernel
theorem dX12_feed_46 : decode cX12_feed 46 = .ok (.iload 6, 2) := by decide +kernel
theorem dX12_feed_48 : decode cX12_feed 48 = .ok (.bipush 12, 2) := by decide +kernel
theorem dX12_feed_50 : decode cX12_feed 50 = .ok (.if_icmp .ge 7, 3) := by decide +kernel
theorem dX12_feed_53 : decode cX12_feed 53 = .ok (.iload_n 3, 1) := by decide +kernel
theorem dX12_feed_54 : decode cX12_feed 54 = .ok (.goto 17, 3) := by decide +kernel
theorem dX12_feed_57 : decode cX12_feed 57 = .ok (.iload 6, 2) := by decide +kernel
theorem dX12_feed_59 : decode cX12_feed 59 = .ok (.bipush 16, 2) := by decide +kernel
theorem dX12_feed_61 : decode cX12_feed 61 = .ok (.if_icmp .ge 8, 3) := by decide +kernel
theorem dX12_feed_64 : decode cX12_feed 64 = .ok (.iload 4, 2) := by decide +kernel
theorem dX12_feed_66 : decode cX12_feed 66 = .ok (.goto 5, 3) := by decide +kernel
theorem dX12_feed_69 : decode cX12_feed 69 = .ok (.iload 5, 2) := by decide +kernel
theorem dX12_feed_71 : decode cX12_feed 71 = .ok (.istore 7, 2) := by decide +kernel
theorem dX12_feed_73 : decode cX12_feed 73 = .ok (.aload_n 0, 1) := by decide +kernel
theorem dX12_feed_74 : decode cX12_feed 74 = .ok (.getfield 9, 3) := by decide +kernel
theorem dX12_feed_77 : decode cX12_feed 77 = .ok (.aload_n 0, 1) := by decide +kernel
theorem dX12_feed_78 : decode cX12_feed 78 = .ok (.getfield 153, 3) := by decide +kernel
theorem dX12_feed_81 : decode cX12_feed 81 = .ok (.iload 6, 2) := by decide +kernel
theorem dX12_feed_83 : decode cX12_feed 83 = .ok (.iadd, 1) := by decide +kernel
theorem dX12_feed_84 : decode cX12_feed 84 = .ok (.iload 7, 2) := by decide +kernel
theorem dX12_feed_86 : decode cX12_feed 86 = .ok (.bipush 24, 2) := by decide +kernel
theorem dX12_feed_88 : decode cX12_feed 88 = .ok (.bipush 8, 2) := by decide +kernel
theorem dX12_feed_90 : decode cX12_feed 90 = .ok (.iload 6, 2) := by decide +kernel
theorem dX12_feed_92 : decode cX12_feed 92 = .ok (.iconst 4, 1) := by decide +kernel
theorem dX12_feed_93 : decode cX12_feed 93 = .ok (.irem, 1) := by decide +kernel
theorem dX12_feed_94 : decode cX12_feed 94 = .ok (.imul, 1) := by decide +kernel
theorem dX12_feed_95 : decode cX12_feed 95 = .ok (.isub, 1) := by decide +kernel
theorem dX12_feed_96 : decode cX12_feed 96 = .ok (.ishr, 1) := by decide +kernel
theorem dX12_feed_97 : decode cX12_feed 97 = .ok (.sipush 255, 3) := by decide +kernel
theorem dX12_feed_100 : decode cX12_feed 100 = .ok (.iand, 1) := by decide +kernel
theorem dX12_feed_101 : decode cX12_feed 101 = .ok (.iastore, 1) := by decide +kernel
theorem dX12_feed_102 : decode cX12_feed 102 = .ok (.iinc 6 1, 3) := by decide +kernel
theorem dX12_feed_105 : decode cX12_feed 105 = .ok (.goto (-87), 3) := by decide +kernel
theorem dX12_feed_108 : decode cX12_feed 108 = .ok (.aload_n 0, 1) := by decide +kernel
theorem dX12_feed_109 : decode cX12_feed 109 = .ok (.dup, 1) := by decide +kernel
theorem dX12_feed_110 : decode cX12_feed 110 = .ok (.getfield 153, 3) := by decide +kernel
theorem dX12_feed_113 : decode cX12_feed 113 = .ok (.bipush 20, 2) := by decide +kernel
theorem dX12_feed_115 : decode cX12_feed 115 = .ok (.iadd, 1) := by decide +kernel
theorem dX12_feed_116 : decode cX12_feed 116 = .ok (.putfield 153, 3) := by decide +kernel
theorem dX12_feed_119 : decode cX12_feed 119 = .ok (.aload_n 0, 1) := by decide +kernel
theorem dX12_feed_120 : decode cX12_feed 120 = .ok (.getfield 153, 3) := by decide +kernel
theorem dX12_feed_123 : decode cX12_feed 123 = .ok (.ireturn, 1) := by decide +kernel
theorem dX12_end_0 : decode cX12_end 0 = .ok (.iload_n 1, 1) := by decide +kernel
theorem dX12_end_1 : decode cX12_end 1 = .ok (.ifCond .lt 11, 3) := by decide +kernel
theorem dX12_end_4 : decode cX12_end 4 = .ok (.iload_n 1, 1) := by decide +kernel
theorem dX12_end_5 : decode cX12_end 5 = .ok (.aload_n 0, 1) := by decide +kernel
theorem dX12_end_6 : decode cX12_end 6 = .ok (.getfield 153, 3) := by decide +kernel
theorem dX12_end_9 : decode cX12_end 9 = .ok (.if_icmp .le 5, 3) := by decide +kernel
theorem dX12_end_12 : decode cX12_end 12 = .ok (.iconst (-1), 1) := by decide +kernel
theorem dX12_end_13 : decode cX12_end 13 = .ok (.ireturn, 1) := by decide +kernel
theorem dX12_end_14 : decode cX12_end 14 = .ok (.aload_n 0, 1) := by decide +kernel
theorem dX12_end_15 : decode cX12_end 15 = .ok (.iload_n 1, 1) := by decide +kernel
theorem dX12_end_16 : decode cX12_end 16 = .ok (.putfield 153, 3) := by decide +kernel
theorem dX12_end_19 : decode cX12_end 19 = .ok (.iload_n 1, 1) := by decide +kernel
theorem dX12_end_20 : decode cX12_end 20 = .ok (.ireturn, 1) := by decide +kernel
theorem dX12_skip_0 : decode cX12_skip 0 = .ok (.iload_n 1, 1) := by decide +kernel
theorem dX12_skip_1 : decode cX12_skip 1 = .ok (.istore_n 2, 1) := by decide +kernel
theorem dX12_skip_2 : decode cX12_skip 2 = .ok (.iload_n 2, 1) := by decide +kernel
theorem dX12_skip_3 : decode cX12_skip 3 = .ok (.aload_n 0, 1) := by decide +kernel
theorem dX12_skip_4 : decode cX12_skip 4 = .ok (.getfield 157, 3) := by decide +kernel
theorem dX12_skip_7 : decode cX12_skip 7 = .ok (.if_icmp .ge 161, 3) := by decide +kernel
theorem dX12_skip_168 : decode cX12_skip 168 = .ok (.iload_n 2, 1) := by decide +kernel
theorem dX12_skip_169 : decode cX12_skip 169 = .ok (.ireturn, 1) := by decide +kernel
theorem dX12_cut_0 : decode cX12_cut 0 = .ok (.aload_n 0, 1) := by decide +kernel
theorem dX12_cut_1 : decode cX12_cut 1 = .ok (.iconst 0, 1) := by decide +kernel
theorem dX12_cut_2 : decode cX12_cut 2 = .ok (.putfield 187, 3) := by decide +kernel
theorem dX12_cut_5 : decode cX12_cut 5 = .ok (.aload_n 0, 1) := by decide +kernel
theorem dX12_cut_6 : decode cX12_cut 6 = .ok (.iconst 0, 1) := by decide +kernel
theorem dX12_cut_7 : decode cX12_cut 7 = .ok (.putfield 181, 3) := by decide +kernel
theorem dX12_cut_10 : decode cX12_cut 10 = .ok (.aload_n 0, 1) := by decide +kernel
theorem dX12_cut_11 : decode cX12_cut 11 = .ok (.iconst (-1), 1) := by decide +kernel
theorem dX12_cut_12 : decode cX12_cut 12 = .ok (.putfield 184, 3) := by decide +kernel
theorem dX12_cut_15 : decode cX12_cut 15 = .ok (.iconst 0, 1) := by decide +kernel
theorem dX12_cut_16 : decode cX12_cut 16 = .ok (.istore_n 1, 1) := by decide +kernel
theorem dX12_cut_17 : decode cX12_cut 17 = .ok (.iload_n 1, 1) := by decide +kernel
theorem dX12_cut_18 : decode cX12_cut 18 = .ok (.bipush 64, 2) := by decide +kernel
theorem dX12_cut_20 : decode cX12_cut 20 = .ok (.if_icmp .ge 16, 3) := by decide +kernel
theorem dX12_cut_23 : decode cX12_cut 23 = .ok (.aload_n 0, 1) := by decide +kernel
theorem dX12_cut_24 : decode cX12_cut 24 = .ok (.getfield 34, 3) := by decide +kernel
theorem dX12_cut_27 : decode cX12_cut 27 = .ok (.iload_n 1, 1) := by decide +kernel
theorem dX12_cut_28 : decode cX12_cut 28 = .ok (.iconst (-1), 1) := by decide +kernel
theorem dX12_cut_29 : decode cX12_cut 29 = .ok (.iastore, 1) := by decide +kernel
theorem dX12_cut_30 : decode cX12_cut 30 = .ok (.iinc 1 1, 3) := by decide +kernel
theorem dX12_cut_33 : decode cX12_cut 33 = .ok (.goto (-16), 3) := by decide +kernel
theorem dX12_cut_36 : decode cX12_cut 36 = .ok (.aload_n 0, 1) := by decide +kernel
theorem dX12_cut_37 : decode cX12_cut 37 = .ok (.iconst 0, 1) := by decide +kernel
theorem dX12_cut_38 : decode cX12_cut 38 = .ok (.invokevirtual 190, 3) := by decide +kernel
theorem dX12_cut_41 : decode cX12_cut 41 = .ok (.istore_n 1, 1) := by decide +kernel
theorem dX12_cut_42 : decode cX12_cut 42 = .ok (.iload_n 1, 1) := by decide +kernel
theorem dX12_cut_43 : decode cX12_cut 43 = .ok (.iconst (-1), 1) := by decide +kernel
theorem dX12_cut_44 : decode cX12_cut 44 = .ok (.if_icmp .eq 45, 3) := by decide +kernel
theorem dX12_cut_47 : decode cX12_cut 47 = .ok (.iload_n 1, 1) := by decide +kernel
theorem dX12_cut_48 : decode cX12_cut 48 = .ok (.aload_n 0, 1) := by decide +kernel
theorem dX12_cut_49 : decode cX12_cut 49 = .ok (.getfield 157, 3) := by decide +kernel
theorem dX12_cut_52 : decode cX12_cut 52 = .ok (.if_icmp .ge 37, 3) := by decide +kernel
theorem dX12_cut_89 : decode cX12_cut 89 = .ok (.aload_n 0, 1) := by decide +kernel
theorem dX12_cut_90 : decode cX12_cut 90 = .ok (.getfield 16, 3) := by decide +kernel
theorem dX12_cut_93 : decode cX12_cut 93 = .ok (.aload_n 0, 1) := by decide +kernel
theorem dX12_cut_94 : decode cX12_cut 94 = .ok (.getfield 187, 3) := by decide +kernel
theorem dX12_cut_97 : decode cX12_cut 97 = .ok (.iconst 0, 1) := by decide +kernel
theorem dX12_cut_98 : decode cX12_cut 98 = .ok (.iastore, 1) := by decide +kernel
theorem dX12_cut_99 : decode cX12_cut 99 = .ok (.aload_n 0, 1) := by decide +kernel
theorem dX12_cut_100 : decode cX12_cut 100 = .ok (.getfield 22, 3) := by decide +kernel
theorem dX12_cut_103 : decode cX12_cut 103 = .ok (.aload_n 0, 1) := by decide +kernel
theorem dX12_cut_104 : decode cX12_cut 104 = .ok (.getfield 187, 3) := by decide +kernel
theorem dX12_cut_107 : decode cX12_cut 107 = .ok (.aload_n 0, 1) := by decide +kernel
theorem dX12_cut_108 : decode cX12_cut 108 = .ok (.getfield 157, 3) := by decide +kernel
theorem dX12_cut_111 : decode cX12_cut 111 = .ok (.iastore, 1) := by decide +kernel
theorem dX12_cut_112 : decode cX12_cut 112 = .ok (.return_, 1) := by decide +kernel
theorem dX12_rank_0 : decode cX12_rank 0 = .ok (.iload_n 0, 1) := by decide +kernel
theorem dX12_rank_1 : decode cX12_rank 1 = .ok (.bipush 7, 2) := by decide +kernel
theorem dX12_rank_3 : decode cX12_rank 3 = .ok (.if_icmp .ne 8, 3) := by decide +kernel
theorem dX12_rank_11 : decode cX12_rank 11 = .ok (.iconst 2, 1) := by decide +kernel
theorem dX12_rank_12 : decode cX12_rank 12 = .ok (.iload_n 0, 1) := by decide +kernel
theorem dX12_rank_13 : decode cX12_rank 13 = .ok (.imul, 1) := by decide +kernel
theorem dX12_rank_14 : decode cX12_rank 14 = .ok (.ireturn, 1) := by decide +kernel
theorem dX12_note_0 : decode cX12_note 0 = .ok (.aload_n 0, 1) := by decide +kernel
theorem dX12_note_1 : decode cX12_note 1 = .ok (.iload_n 1, 1) := by decide +kernel
theorem dX12_note_2 : decode cX12_note 2 = .ok (.iload_n 2, 1) := by decide +kernel
theorem dX12_note_3 : decode cX12_note 3 = .ok (.iload_n 1, 1) := by decide +kernel
theorem dX12_note_4 : decode cX12_note 4 = .ok (.invokestatic 239, 3) := by decide +kernel
theorem dX12_note_7 : decode cX12_note 7 = .ok (.invokevirtual 242, 3) := by decide +kernel
theorem dX12_note_10 : decode cX12_note 10 = .ok (.return_, 1) := by decide +kernel
theorem dX12_noteAs_0 : decode cX12_noteAs 0 = .ok (.aload_n 0, 1) := by decide +kernel
theorem dX12_noteAs_1 : decode cX12_noteAs 1 = .ok (.getfield 245, 3) := by decide +kernel
theorem dX12_noteAs_4 : decode cX12_noteAs 4 = .ok (.ifCond .eq 34, 3) := by decide +kernel
theorem dX12_noteAs_7 : decode cX12_noteAs 7 = .ok (.aload_n 0, 1) := by decide +kernel
theorem dX12_noteAs_8 : decode cX12_noteAs 8 = .ok (.getfield 248, 3) := by decide +kernel
theorem dX12_noteAs_11 : decode cX12_noteAs 11 = .ok (.ifCond .le 28, 3) := by decide +kernel
theorem dX12_noteAs_39 : decode cX12_noteAs 39 = .ok (.aload_n 0, 1) := by decide +kernel
theorem dX12_noteAs_40 : decode cX12_noteAs 40 = .ok (.iload_n 1, 1) := by decide +kernel
theorem dX12_noteAs_41 : decode cX12_noteAs 41 = .ok (.putfield 248, 3) := by decide +kernel
theorem dX12_noteAs_44 : decode cX12_noteAs 44 = .ok (.aload_n 0, 1) := by decide +kernel
theorem dX12_noteAs_45 : decode cX12_noteAs 45 = .ok (.iload_n 2, 1) := by decide +kernel
theorem dX12_noteAs_46 : decode cX12_noteAs 46 = .ok (.putfield 251, 3) := by decide +kernel
theorem dX12_noteAs_49 : decode cX12_noteAs 49 = .ok (.aload_n 0, 1) := by decide +kernel
theorem dX12_noteAs_50 : decode cX12_noteAs 50 = .ok (.iload_n 3, 1) := by decide +kernel
theorem dX12_noteAs_51 : decode cX12_noteAs 51 = .ok (.putfield 254, 3) := by decide +kernel
theorem dX12_noteAs_54 : decode cX12_noteAs 54 = .ok (.return_, 1) := by decide +kernel
theorem dX12_texts_0 : decode cX12_texts 0 = .ok (.aload_n 0, 1) := by decide +kernel
theorem dX12_texts_1 : decode cX12_texts 1 = .ok (.iconst 0, 1) := by decide +kernel
theorem dX12_texts_2 : decode cX12_texts 2 = .ok (.putfield 233, 3) := by decide +kernel
theorem dX12_texts_5 : decode cX12_texts 5 = .ok (.aload_n 0, 1) := by decide +kernel
theorem dX12_texts_6 : decode cX12_texts 6 = .ok (.iconst 0, 1) := by decide +kernel
theorem dX12_texts_7 : decode cX12_texts 7 = .ok (.putfield 266, 3) := by decide +kernel
theorem dX12_texts_10 : decode cX12_texts 10 = .ok (.aload_n 0, 1) := by decide +kernel
theorem dX12_texts_11 : decode cX12_texts 11 = .ok (.iconst 0, 1) := by decide +kernel
theorem dX12_texts_12 : decode cX12_texts 12 = .ok (.putfield 279, 3) := by decide +kernel
theorem dX12_texts_15 : decode cX12_texts 15 = .ok (.aload_n 0, 1) := by decide +kernel
theorem dX12_texts_16 : decode cX12_texts 16 = .ok (.iconst 0, 1) := by decide +kernel
theorem dX12_texts_17 : decode cX12_texts 17 = .ok (.putfield 282, 3) := by decide +kernel
theorem dX12_texts_20 : decode cX12_texts 20 = .ok (.aload_n 0, 1) := by decide +kernel
theorem dX12_texts_21 : decode cX12_texts 21 = .ok (.iconst 0, 1) := by decide +kernel
theorem dX12_texts_22 : decode cX12_texts 22 = .ok (.putfield 276, 3) := by decide +kernel
theorem dX12_texts_25 : decode cX12_texts 25 = .ok (.aload_n 0, 1) := by decide +kernel
theorem dX12_texts_26 : decode cX12_texts 26 = .ok (.iconst 0, 1) := by decide +kernel
theorem dX12_texts_27 : decode cX12_texts 27 = .ok (.putfield 285, 3) := by decide +kernel
theorem dX12_texts_30 : decode cX12_texts 30 = .ok (.aload_n 0, 1) := by decide +kernel
theorem dX12_texts_31 : decode cX12_texts 31 = .ok (.iconst 0, 1) := by decide +kernel
theorem dX12_texts_32 : decode cX12_texts 32 = .ok (.putfield 288, 3) := by decide +kernel
theorem dX12_texts_35 : decode cX12_texts 35 = .ok (.aload_n 0, 1) := by decide +kernel
theorem dX12_texts_36 : decode cX12_texts 36 = .ok (.iconst 0, 1) := by decide +kernel
theorem dX12_texts_37 : decode cX12_texts 37 = .ok (.putfield 291, 3) := by decide +kernel
theorem dX12_texts_40 : decode cX12_texts 40 = .ok (.aload_n 0, 1) := by decide +kernel
theorem dX12_texts_41 : decode cX12_texts 41 = .ok (.iconst (-1), 1) := by decide +kernel
theorem dX12_texts_42 : decode cX12_texts 42 = .ok (.putfield 294, 3) := by decide +kernel
theorem dX12_texts_45 : decode cX12_texts 45 = .ok (.aload_n 0, 1) := by decide +kernel
theorem dX12_texts_46 : decode cX12_texts 46 = .ok (.aload_n 0, 1) := by decide +kernel
theorem dX12_texts_47 : decode cX12_texts 47 = .ok (.getfield 245, 3) := by decide +kernel
theorem dX12_texts_50 : decode cX12_texts 50 = .ok (.ifCond .ne 7, 3) := by decide +kernel
theorem dX12_texts_53 : decode cX12_texts 53 = .ok (.iconst 0, 1) := by decide +kernel
theorem dX12_texts_54 : decode cX12_texts 54 = .ok (.goto 7, 3) := by decide +kernel
theorem dX12_texts_57 : decode cX12_texts 57 = .ok (.aload_n 0, 1) := by decide +kernel
theorem dX12_texts_58 : decode cX12_texts 58 = .ok (.getfield 297, 3) := by decide +kernel
theorem dX12_texts_61 : decode cX12_texts 61 = .ok (.putfield 297, 3) := by decide +kernel
theorem dX12_texts_64 : decode cX12_texts 64 = .ok (.iconst 0, 1) := by decide +kernel
theorem dX12_texts_65 : decode cX12_texts 65 = .ok (.istore_n 1, 1) := by decide +kernel
theorem dX12_texts_66 : decode cX12_texts 66 = .ok (.aload_n 0, 1) := by decide +kernel
theorem dX12_texts_67 : decode cX12_texts 67 = .ok (.aload_n 0, 1) := by decide +kernel
theorem dX12_texts_68 : decode cX12_texts 68 = .ok (.getfield 245, 3) := by decide +kernel
theorem dX12_texts_71 : decode cX12_texts 71 = .ok (.ifCond .ne 7, 3) := by decide +kernel
theorem dX12_texts_74 : decode cX12_texts 74 = .ok (.iconst 0, 1) := by decide +kernel
theorem dX12_texts_75 : decode cX12_texts 75 = .ok (.goto 7, 3) := by decide +kernel
theorem dX12_texts_78 : decode cX12_texts 78 = .ok (.aload_n 0, 1) := by decide +kernel
theorem dX12_texts_79 : decode cX12_texts 79 = .ok (.getfield 300, 3) := by decide +kernel
theorem dX12_texts_82 : decode cX12_texts 82 = .ok (.putfield 300, 3) := by decide +kernel
theorem dX12_texts_85 : decode cX12_texts 85 = .ok (.iconst 1, 1) := by decide +kernel
theorem dX12_texts_86 : decode cX12_texts 86 = .ok (.istore_n 2, 1) := by decide +kernel
theorem dX12_texts_87 : decode cX12_texts 87 = .ok (.iload_n 2, 1) := by decide +kernel
theorem dX12_texts_88 : decode cX12_texts 88 = .ok (.ifCond .eq 39, 3) := by decide +kernel
theorem dX12_texts_91 : decode cX12_texts 91 = .ok (.aload_n 0, 1) := by decide +kernel
theorem dX12_texts_92 : decode cX12_texts 92 = .ok (.getfield 16, 3) := by decide +kernel
theorem dX12_texts_95 : decode cX12_texts 95 = .ok (.aload_n 0, 1) := by decide +kernel
theorem dX12_texts_96 : decode cX12_texts 96 = .ok (.getfield 233, 3) := by decide +kernel
theorem dX12_texts_99 : decode cX12_texts 99 = .ok (.iaload, 1) := by decide +kernel
theorem dX12_texts_100 : decode cX12_texts 100 = .ok (.ifCond .eq 27, 3) := by decide +kernel
theorem dX12_texts_127 : decode cX12_texts 127 = .ok (.aload_n 0, 1) := by decide +kernel
theorem dX12_texts_128 : decode cX12_texts 128 = .ok (.getfield 230, 3) := by decide +kernel
theorem dX12_texts_131 : decode cX12_texts 131 = .ok (.ifCond .ne 23, 3) := by decide +kernel
theorem dX12_texts_134 : decode cX12_texts 134 = .ok (.aload_n 0, 1) := by decide +kernel
theorem dX12_texts_135 : decode cX12_texts 135 = .ok (.getfield 184, 3) := by decide +kernel
theorem dX12_texts_138 : decode cX12_texts 138 = .ok (.iconst (-1), 1) := by decide +kernel
theorem dX12_texts_139 : decode cX12_texts 139 = .ok (.if_icmp .eq 11, 3) := by decide +kernel
theorem dX12_texts_150 : decode cX12_texts 150 = .ok (.iconst 1, 1) := by decide +kernel
theorem dX12_texts_151 : decode cX12_texts 151 = .ok (.goto 4, 3) := by decide +kernel
theorem dX12_texts_155 : decode cX12_texts 155 = .ok (.ireturn, 1) := by decide +kernel
theorem dX12_read_0 : decode cX12_read 0 = .ok (.aload_n 0, 1) := by decide +kernel
theorem dX12_read_1 : decode cX12_read 1 = .ok (.aload_n 0, 1) := by decide +kernel
theorem dX12_read_2 : decode cX12_read 2 = .ok (.getfield 153, 3) := by decide +kernel
theorem dX12_read_5 : decode cX12_read 5 = .ok (.putfield 157, 3) := by decide +kernel
theorem dX12_read_8 : decode cX12_read 8 = .ok (.iconst 0, 1) := by decide +kernel
theorem dX12_read_9 : decode cX12_read 9 = .ok (.istore_n 1, 1) := by decide +kernel
theorem dX12_read_10 : decode cX12_read 10 = .ok (.iload_n 1, 1) := by decide +kernel
theorem dX12_read_11 : decode cX12_read 11 = .ok (.aload_n 0, 1) := by decide +kernel
theorem dX12_read_12 : decode cX12_read 12 = .ok (.getfield 157, 3) := by decide +kernel
theorem dX12_read_15 : decode cX12_read 15 = .ok (.if_icmp .ge 21, 3) := by decide +kernel
theorem dX12_read_36 : decode cX12_read 36 = .ok (.aload_n 0, 1) := by decide +kernel
theorem dX12_read_37 : decode cX12_read 37 = .ok (.iconst 0, 1) := by decide +kernel
theorem dX12_read_38 : decode cX12_read 38 = .ok (.putfield 153, 3) := by decide +kernel
theorem dX12_read_41 : decode cX12_read 41 = .ok (.aload_n 0, 1) := by decide +kernel
theorem dX12_read_42 : decode cX12_read 42 = .ok (.iconst 0, 1) := by decide +kernel
theorem dX12_read_43 : decode cX12_read 43 = .ok (.putfield 509, 3) := by decide +kernel
theorem dX12_read_46 : decode cX12_read 46 = .ok (.aload_n 0, 1) := by decide +kernel
theorem dX12_read_47 : decode cX12_read 47 = .ok (.iconst 0, 1) := by decide +kernel
theorem dX12_read_48 : decode cX12_read 48 = .ok (.putfield 512, 3) := by decide +kernel
theorem dX12_read_51 : decode cX12_read 51 = .ok (.aload_n 0, 1) := by decide +kernel
theorem dX12_read_52 : decode cX12_read 52 = .ok (.iconst 0, 1) := by decide +kernel
theorem dX12_read_53 : decode cX12_read 53 = .ok (.putfield 515, 3) := by decide +kernel
theorem dX12_read_56 : decode cX12_read 56 = .ok (.aload_n 0, 1) := by decide +kernel
theorem dX12_read_57 : decode cX12_read 57 = .ok (.iconst 0, 1) := by decide +kernel
theorem dX12_read_58 : decode cX12_read 58 = .ok (.putfield 518, 3) := by decide +kernel
theorem dX12_read_61 : decode cX12_read 61 = .ok (.aload_n 0, 1) := by decide +kernel
theorem dX12_read_62 : decode cX12_read 62 = .ok (.iconst 0, 1) := by decide +kernel
theorem dX12_read_63 : decode cX12_read 63 = .ok (.putfield 230, 3) := by decide +kernel
theorem dX12_read_66 : decode cX12_read 66 = .ok (.aload_n 0, 1) := by decide +kernel
theorem dX12_read_67 : decode cX12_read 67 = .ok (.iconst 0, 1) := by decide +kernel
theorem dX12_read_68 : decode cX12_read 68 = .ok (.putfield 248, 3) := by decide +kernel
theorem dX12_read_71 : decode cX12_read 71 = .ok (.aload_n 0, 1) := by decide +kernel
theorem dX12_read_72 : decode cX12_read 72 = .ok (.iconst 0, 1) := by decide +kernel
theorem dX12_read_73 : decode cX12_read 73 = .ok (.putfield 365, 3) := by decide +kernel
theorem dX12_read_76 : decode cX12_read 76 = .ok (.aload_n 0, 1) := by decide +kernel
theorem dX12_read_77 : decode cX12_read 77 = .ok (.invokevirtual 521, 3) := by decide +kernel
theorem dX12_read_80 : decode cX12_read 80 = .ok (.aload_n 0, 1) := by decide +kernel
theorem dX12_read_81 : decode cX12_read 81 = .ok (.iconst 0, 1) := by decide +kernel
theorem dX12_read_82 : decode cX12_read 82 = .ok (.putfield 245, 3) := by decide +kernel
theorem dX12_read_85 : decode cX12_read 85 = .ok (.aload_n 0, 1) := by decide +kernel
theorem dX12_read_86 : decode cX12_read 86 = .ok (.invokevirtual 524, 3) := by decide +kernel
theorem dX12_read_89 : decode cX12_read 89 = .ok (.ifCond .ne 16, 3) := by decide +kernel
theorem dX12_read_105 : decode cX12_read 105 = .ok (.aload_n 0, 1) := by decide +kernel
theorem dX12_read_106 : decode cX12_read 106 = .ok (.iconst 1, 1) := by decide +kernel
theorem dX12_read_107 : decode cX12_read 107 = .ok (.putfield 245, 3) := by decide +kernel
theorem dX12_read_110 : decode cX12_read 110 = .ok (.aload_n 0, 1) := by decide +kernel
theorem dX12_read_111 : decode cX12_read 111 = .ok (.invokevirtual 524, 3) := by decide +kernel
theorem dX12_read_114 : decode cX12_read 114 = .ok (.pop, 1) := by decide +kernel
theorem dX12_read_115 : decode cX12_read 115 = .ok (.aload_n 0, 1) := by decide +kernel
theorem dX12_read_116 : decode cX12_read 116 = .ok (.iconst (-1), 1) := by decide +kernel
theorem dX12_read_117 : decode cX12_read 117 = .ok (.putfield 527, 3) := by decide +kernel
theorem dX12_read_120 : decode cX12_read 120 = .ok (.aload_n 0, 1) := by decide +kernel
theorem dX12_read_121 : decode cX12_read 121 = .ok (.getfield 297, 3) := by decide +kernel
theorem dX12_read_124 : decode cX12_read 124 = .ok (.iconst 1, 1) := by decide +kernel
theorem dX12_read_125 : decode cX12_read 125 = .ok (.isub, 1) := by decide +kernel
theorem dX12_read_126 : decode cX12_read 126 = .ok (.istore_n 1, 1) := by decide +kernel
theorem dX12_read_127 : decode cX12_read 127 = .ok (.iload_n 1, 1) := by decide +kernel
theorem dX12_read_128 : decode cX12_read 128 = .ok (.ifCond .lt 112, 3) := by decide +kernel
theorem dX12_read_240 : decode cX12_read 240 = .ok (.aload_n 0, 1) := by decide +kernel
theorem dX12_read_241 : decode cX12_read 241 = .ok (.getfield 527, 3) := by decide +kernel
theorem dX12_read_244 : decode cX12_read 244 = .ok (.iconst (-1), 1) := by decide +kernel
theorem dX12_read_245 : decode cX12_read 245 = .ok (.if_icmp .ne 13, 3) := by decide +kernel
theorem dX12_read_248 : decode cX12_read 248 = .ok (.aload_n 0, 1) := by decide +kernel
theorem dX12_read_249 : decode cX12_read 249 = .ok (.bipush 12, 2) := by decide +kernel
theorem dX12_read_251 : decode cX12_read 251 = .ok (.aload_n 0, 1) := by decide +kernel
theorem dX12_read_252 : decode cX12_read 252 = .ok (.getfield 157, 3) := by decide +kernel
theorem dX12_read_255 : decode cX12_read 255 = .ok (.invokevirtual 352, 3) := by decide +kernel
theorem dX12_read_258 : decode cX12_read 258 = .ok (.aload_n 0, 1) := by decide +kernel
theorem dX12_read_259 : decode cX12_read 259 = .ok (.getfield 248, 3) := by decide +kernel
theorem dX12_read_262 : decode cX12_read 262 = .ok (.ifCond .le 16, 3) := by decide +kernel
theorem dX12_read_265 : decode cX12_read 265 = .ok (.bipush 16, 2) := by decide +kernel
theorem dX12_read_267 : decode cX12_read 267 = .ok (.aload_n 0, 1) := by decide +kernel
theorem dX12_read_268 : decode cX12_read 268 = .ok (.getfield 251, 3) := by decide +kernel
theorem dX12_read_271 : decode cX12_read 271 = .ok (.imul, 1) := by decide +kernel
theorem dX12_read_272 : decode cX12_read 272 = .ok (.aload_n 0, 1) := by decide +kernel
theorem dX12_read_273 : decode cX12_read 273 = .ok (.getfield 248, 3) := by decide +kernel
theorem dX12_read_276 : decode cX12_read 276 = .ok (.iadd, 1) := by decide +kernel
theorem dX12_read_277 : decode cX12_read 277 = .ok (.ireturn, 1) := by decide +kernel
theorem dX12_look_0 : decode cX12_look 0 = .ok (.aload_n 0, 1) := by decide +kernel
theorem dX12_look_1 : decode cX12_look 1 = .ok (.getfield 509, 3) := by decide +kernel
theorem dX12_look_4 : decode cX12_look 4 = .ok (.ifCond .ne 5, 3) := by decide +kernel
theorem dX12_look_7 : decode cX12_look 7 = .ok (.iconst (-1), 1) := by decide +kernel
theorem dX12_look_8 : decode cX12_look 8 = .ok (.ireturn, 1) := by decide +kernel
theorem dX12_give_0 : decode cX12_give 0 = .ok (.aload_n 0, 1) := by decide +kernel
theorem dX12_give_1 : decode cX12_give 1 = .ok (.getfield 509, 3) := by decide +kernel
theorem dX12_give_4 : decode cX12_give 4 = .ok (.ifCond .eq 13, 3) := by decide +kernel
theorem dX12_give_17 : decode cX12_give 17 = .ok (.iconst (-1), 1) := by decide +kernel
theorem dX12_give_18 : decode cX12_give 18 = .ok (.ireturn, 1) := by decide +kernel
theorem dX12_begin_0 : decode cX12_begin 0 = .ok (.aload_n 0, 1) := by decide +kernel
theorem dX12_begin_1 : decode cX12_begin 1 = .ok (.getfield 509, 3) := by decide +kernel
theorem dX12_begin_4 : decode cX12_begin 4 = .ok (.ifCond .eq 15, 3) := by decide +kernel
theorem dX12_begin_19 : decode cX12_begin 19 = .ok (.iconst 0, 1) := by decide +kernel
theorem dX12_begin_20 : decode cX12_begin 20 = .ok (.ireturn, 1) := by decide +kernel
theorem dX12_run_0 : decode cX12_run 0 = .ok (.iload_n 1, 1) := by decide +kernel
theorem dX12_run_1 : decode cX12_run 1 = .ok (.ifCond .lt 17, 3) := by decide +kernel
theorem dX12_run_4 : decode cX12_run 4 = .ok (.iload_n 1, 1) := by decide +kernel
theorem dX12_run_5 : decode cX12_run 5 = .ok (.sipush 1000, 3) := by decide +kernel
theorem dX12_run_8 : decode cX12_run 8 = .ok (.if_icmp .gt 10, 3) := by decide +kernel
theorem dX12_run_11 : decode cX12_run 11 = .ok (.aload_n 0, 1) := by decide +kernel
theorem dX12_run_12 : decode cX12_run 12 = .ok (.getfield 512, 3) := by decide +kernel
theorem dX12_run_15 : decode cX12_run 15 = .ok (.ifCond .ne 5, 3) := by decide +kernel
theorem dX12_run_18 : decode cX12_run 18 = .ok (.iconst (-1), 1) := by decide +kernel
theorem dX12_run_19 : decode cX12_run 19 = .ok (.ireturn, 1) := by decide +kernel
theorem dX12_output_0 : decode cX12_output 0 = .ok (.iload_n 1, 1) := by decide +kernel
theorem dX12_output_1 : decode cX12_output 1 = .ok (.ifCond .lt 18, 3) := by decide +kernel
theorem dX12_output_4 : decode cX12_output 4 = .ok (.iload_n 1, 1) := by decide +kernel
theorem dX12_output_5 : decode cX12_output 5 = .ok (.aload_n 0, 1) := by decide +kernel
theorem dX12_output_6 : decode cX12_output 6 = .ok (.getfield 518, 3) := by decide +kernel
theorem dX12_output_9 : decode cX12_output 9 = .ok (.if_icmp .ge 10, 3) := by decide +kernel
theorem dX12_output_12 : decode cX12_output 12 = .ok (.iload_n 1, 1) := by decide +kernel
theorem dX12_output_13 : decode cX12_output 13 = .ok (.sipush 2000, 3) := by decide +kernel
theorem dX12_output_16 : decode cX12_output 16 = .ok (.if_icmp .lt 7, 3) := by decide +kernel
theorem dX12_output_19 : decode cX12_output 19 = .ok (.iconst 0, 1) := by decide +kernel
theorem dX12_output_20 : decode cX12_output 20 = .ok (.goto 9, 3) := by decide +kernel
theorem dX12_output_23 : decode cX12_output 23 = .ok (.aload_n 0, 1) := by decide +kernel
theorem dX12_output_24 : decode cX12_output 24 = .ok (.getfield 132, 3) := by decide +kernel
theorem dX12_output_27 : decode cX12_output 27 = .ok (.iload_n 1, 1) := by decide +kernel
theorem dX12_output_28 : decode cX12_output 28 = .ok (.iaload, 1) := by decide +kernel
theorem dX12_output_29 : decode cX12_output 29 = .ok (.ireturn, 1) := by decide +kernel
theorem dX12_world_0 : decode cX12_world 0 = .ok (.iload_n 1, 1) := by decide +kernel
theorem dX12_world_1 : decode cX12_world 1 = .ok (.tableswitch 161 0 7 #[47, 52, 68, 73, 78, 103, 129, 145], 47) := by decide +kernel
theorem dX12_world_48 : decode cX12_world 48 = .ok (.aload_n 0, 1) := by decide +kernel
theorem dX12_world_49 : decode cX12_world 49 = .ok (.getfield 512, 3) := by decide +kernel
theorem dX12_world_52 : decode cX12_world 52 = .ok (.ireturn, 1) := by decide +kernel
theorem dX12_world_53 : decode cX12_world 53 = .ok (.aload_n 0, 1) := by decide +kernel
theorem dX12_world_54 : decode cX12_world 54 = .ok (.getfield 512, 3) := by decide +kernel
theorem dX12_world_57 : decode cX12_world 57 = .ok (.ifCond .ne 7, 3) := by decide +kernel
theorem dX12_world_60 : decode cX12_world 60 = .ok (.iconst 0, 1) := by decide +kernel
theorem dX12_world_61 : decode cX12_world 61 = .ok (.goto 7, 3) := by decide +kernel
theorem dX12_world_68 : decode cX12_world 68 = .ok (.ireturn, 1) := by decide +kernel
theorem dX12_world_69 : decode cX12_world 69 = .ok (.aload_n 0, 1) := by decide +kernel
theorem dX12_world_70 : decode cX12_world 70 = .ok (.getfield 518, 3) := by decide +kernel
theorem dX12_world_73 : decode cX12_world 73 = .ok (.ireturn, 1) := by decide +kernel
theorem dX12_world_74 : decode cX12_world 74 = .ok (.aload_n 0, 1) := by decide +kernel
theorem dX12_world_75 : decode cX12_world 75 = .ok (.getfield 515, 3) := by decide +kernel
theorem dX12_world_78 : decode cX12_world 78 = .ok (.ireturn, 1) := by decide +kernel
theorem dX12_world_79 : decode cX12_world 79 = .ok (.aload_n 0, 1) := by decide +kernel
theorem dX12_world_80 : decode cX12_world 80 = .ok (.getfield 512, 3) := by decide +kernel
theorem dX12_world_83 : decode cX12_world 83 = .ok (.iconst 3, 1) := by decide +kernel
theorem dX12_world_84 : decode cX12_world 84 = .ok (.if_icmp .eq 11, 3) := by decide +kernel
theorem dX12_world_87 : decode cX12_world 87 = .ok (.aload_n 0, 1) := by decide +kernel
theorem dX12_world_88 : decode cX12_world 88 = .ok (.getfield 512, 3) := by decide +kernel
theorem dX12_world_91 : decode cX12_world 91 = .ok (.iconst 4, 1) := by decide +kernel
theorem dX12_world_92 : decode cX12_world 92 = .ok (.if_icmp .ne 10, 3) := by decide +kernel
theorem dX12_world_102 : decode cX12_world 102 = .ok (.iconst 0, 1) := by decide +kernel
theorem dX12_world_103 : decode cX12_world 103 = .ok (.ireturn, 1) := by decide +kernel
theorem dX12_world_104 : decode cX12_world 104 = .ok (.aload_n 0, 1) := by decide +kernel
theorem dX12_world_105 : decode cX12_world 105 = .ok (.getfield 512, 3) := by decide +kernel
theorem dX12_world_108 : decode cX12_world 108 = .ok (.iconst 5, 1) := by decide +kernel
theorem dX12_world_109 : decode cX12_world 109 = .ok (.if_icmp .eq 12, 3) := by decide +kernel
theorem dX12_world_112 : decode cX12_world 112 = .ok (.aload_n 0, 1) := by decide +kernel
theorem dX12_world_113 : decode cX12_world 113 = .ok (.getfield 512, 3) := by decide +kernel
theorem dX12_world_116 : decode cX12_world 116 = .ok (.bipush 6, 2) := by decide +kernel
theorem dX12_world_118 : decode cX12_world 118 = .ok (.if_icmp .ne 10, 3) := by decide +kernel
theorem dX12_world_128 : decode cX12_world 128 = .ok (.iconst (-1), 1) := by decide +kernel
theorem dX12_world_129 : decode cX12_world 129 = .ok (.ireturn, 1) := by decide +kernel
theorem dX12_world_130 : decode cX12_world 130 = .ok (.aload_n 0, 1) := by decide +kernel
theorem dX12_world_131 : decode cX12_world 131 = .ok (.getfield 512, 3) := by decide +kernel
theorem dX12_world_134 : decode cX12_world 134 = .ok (.ifCond .ne 7, 3) := by decide +kernel
theorem dX12_world_137 : decode cX12_world 137 = .ok (.iconst 0, 1) := by decide +kernel
theorem dX12_world_138 : decode cX12_world 138 = .ok (.goto 7, 3) := by decide +kernel
theorem dX12_world_145 : decode cX12_world 145 = .ok (.ireturn, 1) := by decide +kernel
theorem dX12_world_146 : decode cX12_world 146 = .ok (.aload_n 0, 1) := by decide +kernel
theorem dX12_world_147 : decode cX12_world 147 = .ok (.getfield 512, 3) := by decide +kernel
theorem dX12_world_150 : decode cX12_world 150 = .ok (.ifCond .ne 7, 3) := by decide +kernel
theorem dX12_world_153 : decode cX12_world 153 = .ok (.iconst 0, 1) := by decide +kernel
theorem dX12_world_154 : decode cX12_world 154 = .ok (.goto 7, 3) := by decide +kernel
theorem dX12_world_161 : decode cX12_world 161 = .ok (.ireturn, 1) := by decide +kernel
theorem dX12_world_162 : decode cX12_world 162 = .ok (.iconst (-1), 1) := by decide +kernel
theorem dX12_world_163 : decode cX12_world 163 = .ok (.ireturn, 1) := by decide +kernel
theorem dX12_global_0 : decode cX12_global 0 = .ok (.aload_n 0, 1) := by decide +kernel
theorem dX12_global_1 : decode cX12_global 1 = .ok (.getfield 509, 3) := by decide +kernel
theorem dX12_global_4 : decode cX12_global 4 = .ok (.ifCond .eq 15, 3) := by decide +kernel
theorem dX12_global_19 : decode cX12_global 19 = .ok (.iconst 0, 1) := by decide +kernel
theorem dX12_global_20 : decode cX12_global 20 = .ok (.ireturn, 1) := by decide +kernel
theorem dX12_put_0 : decode cX12_put 0 = .ok (.iload_n 1, 1) := by decide +kernel
theorem dX12_put_1 : decode cX12_put 1 = .ok (.iconst 3, 1) := by decide +kernel
theorem dX12_put_2 : decode cX12_put 2 = .ok (.iand, 1) := by decide +kernel
theorem dX12_put_3 : decode cX12_put 3 = .ok (.ifCond .ne 14, 3) := by decide +kernel
theorem dX12_put_6 : decode cX12_put 6 = .ok (.iload_n 1, 1) := by decide +kernel
theorem dX12_put_7 : decode cX12_put 7 = .ok (.ifCond .lt 10, 3) := by decide +kernel
theorem dX12_put_10 : decode cX12_put 10 = .ok (.iload_n 1, 1) := by decide +kernel
theorem dX12_put_11 : decode cX12_put 11 = .ok (.sipush 16380, 3) := by decide +kernel
theorem dX12_put_14 : decode cX12_put 14 = .ok (.if_icmp .le 5, 3) := by decide +kernel
theorem dX12_put_17 : decode cX12_put 17 = .ok (.iconst 0, 1) := by decide +kernel
theorem dX12_put_18 : decode cX12_put 18 = .ok (.ireturn, 1) := by decide +kernel
theorem dX12_put_19 : decode cX12_put 19 = .ok (.aload_n 0, 1) := by decide +kernel
theorem dX12_put_20 : decode cX12_put 20 = .ok (.getfield 147, 3) := by decide +kernel
theorem dX12_put_23 : decode cX12_put 23 = .ok (.iload_n 1, 1) := by decide +kernel
theorem dX12_put_24 : decode cX12_put 24 = .ok (.iconst 2, 1) := by decide +kernel
theorem dX12_put_25 : decode cX12_put 25 = .ok (.ishr, 1) := by decide +kernel
theorem dX12_put_26 : decode cX12_put 26 = .ok (.iload_n 2, 1) := by decide +kernel
theorem dX12_put_27 : decode cX12_put 27 = .ok (.iastore, 1) := by decide +kernel
theorem dX12_put_28 : decode cX12_put 28 = .ok (.iconst 1, 1) := by decide +kernel
theorem dX12_put_29 : decode cX12_put 29 = .ok (.ireturn, 1) := by decide +kernel
theorem dX12_set_0 : decode cX12_set 0 = .ok (.iload_n 1, 1) := by decide +kernel
theorem dX12_set_1 : decode cX12_set 1 = .ok (.iconst 1, 1) := by decide +kernel
theorem dX12_set_2 : decode cX12_set 2 = .ok (.if_icmp .lt 9, 3) := by decide +kernel
theorem dX12_set_5 : decode cX12_set 5 = .ok (.iload_n 1, 1) := by decide +kernel
theorem dX12_set_6 : decode cX12_set 6 = .ok (.bipush 32, 2) := by decide +kernel
theorem dX12_set_8 : decode cX12_set 8 = .ok (.if_icmp .le 5, 3) := by decide +kernel
theorem dX12_set_11 : decode cX12_set 11 = .ok (.iconst 0, 1) := by decide +kernel
theorem dX12_set_12 : decode cX12_set 12 = .ok (.ireturn, 1) := by decide +kernel
theorem dX12_set_13 : decode cX12_set 13 = .ok (.aload_n 0, 1) := by decide +kernel
theorem dX12_set_14 : decode cX12_set 14 = .ok (.getfield 150, 3) := by decide +kernel
theorem dX12_set_17 : decode cX12_set 17 = .ok (.iload_n 1, 1) := by decide +kernel
theorem dX12_set_18 : decode cX12_set 18 = .ok (.iload_n 2, 1) := by decide +kernel
theorem dX12_set_19 : decode cX12_set 19 = .ok (.iastore, 1) := by decide +kernel
theorem dX12_set_20 : decode cX12_set 20 = .ok (.iconst 1, 1) := by decide +kernel
theorem dX12_set_21 : decode cX12_set 21 = .ok (.ireturn, 1) := by decide +kernel
theorem dX12_board_0 : decode cX12_board 0 = .ok (.iload_n 1, 1) := by decide +kernel
theorem dX12_board_1 : decode cX12_board 1 = .ok (.ifCond .lt 18, 3) := by decide +kernel
theorem dX12_board_4 : decode cX12_board 4 = .ok (.iload_n 1, 1) := by decide +kernel
theorem dX12_board_5 : decode cX12_board 5 = .ok (.bipush 33, 2) := by decide +kernel
theorem dX12_board_7 : decode cX12_board 7 = .ok (.if_icmp .ge 12, 3) := by decide +kernel
theorem dX12_board_10 : decode cX12_board 10 = .ok (.aload_n 0, 1) := by decide +kernel
theorem dX12_board_11 : decode cX12_board 11 = .ok (.getfield 150, 3) := by decide +kernel
theorem dX12_board_14 : decode cX12_board 14 = .ok (.iload_n 1, 1) := by decide +kernel
theorem dX12_board_15 : decode cX12_board 15 = .ok (.iaload, 1) := by decide +kernel
theorem dX12_board_16 : decode cX12_board 16 = .ok (.goto 42, 3) := by decide +kernel
theorem dX12_board_19 : decode cX12_board 19 = .ok (.iload_n 1, 1) := by decide +kernel
theorem dX12_board_20 : decode cX12_board 20 = .ok (.bipush 33, 2) := by decide +kernel
theorem dX12_board_22 : decode cX12_board 22 = .ok (.if_icmp .ne 10, 3) := by decide +kernel
theorem dX12_board_25 : decode cX12_board 25 = .ok (.aload_n 0, 1) := by decide +kernel
theorem dX12_board_26 : decode cX12_board 26 = .ok (.getfield 570, 3) := by decide +kernel
theorem dX12_board_29 : decode cX12_board 29 = .ok (.goto 29, 3) := by decide +kernel
theorem dX12_board_32 : decode cX12_board 32 = .ok (.iload_n 1, 1) := by decide +kernel
theorem dX12_board_33 : decode cX12_board 33 = .ok (.bipush 100, 2) := by decide +kernel
theorem dX12_board_35 : decode cX12_board 35 = .ok (.if_icmp .lt 22, 3) := by decide +kernel
theorem dX12_board_38 : decode cX12_board 38 = .ok (.iload_n 1, 1) := by decide +kernel
theorem dX12_board_39 : decode cX12_board 39 = .ok (.sipush 4196, 3) := by decide +kernel
theorem dX12_board_42 : decode cX12_board 42 = .ok (.if_icmp .ge 15, 3) := by decide +kernel
theorem dX12_board_45 : decode cX12_board 45 = .ok (.aload_n 0, 1) := by decide +kernel
theorem dX12_board_46 : decode cX12_board 46 = .ok (.getfield 147, 3) := by decide +kernel
theorem dX12_board_49 : decode cX12_board 49 = .ok (.iload_n 1, 1) := by decide +kernel
theorem dX12_board_50 : decode cX12_board 50 = .ok (.bipush 100, 2) := by decide +kernel
theorem dX12_board_52 : decode cX12_board 52 = .ok (.isub, 1) := by decide +kernel
theorem dX12_board_53 : decode cX12_board 53 = .ok (.iaload, 1) := by decide +kernel
theorem dX12_board_54 : decode cX12_board 54 = .ok (.goto 4, 3) := by decide +kernel
theorem dX12_board_57 : decode cX12_board 57 = .ok (.iconst (-1), 1) := by decide +kernel
theorem dX12_board_58 : decode cX12_board 58 = .ok (.ireturn, 1) := by decide +kernel
theorem dX12_go_0 : decode cX12_go 0 = .ok (.iload_n 1, 1) := by decide +kernel
theorem dX12_go_1 : decode cX12_go 1 = .ok (.iconst 1, 1) := by decide +kernel
theorem dX12_go_2 : decode cX12_go 2 = .ok (.if_icmp .lt 10, 3) := by decide +kernel
theorem dX12_go_5 : decode cX12_go 5 = .ok (.iload_n 1, 1) := by decide +kernel
theorem dX12_go_6 : decode cX12_go 6 = .ok (.sipush 1000, 3) := by decide +kernel
theorem dX12_go_9 : decode cX12_go 9 = .ok (.if_icmp .le 5, 3) := by decide +kernel
theorem dX12_go_12 : decode cX12_go 12 = .ok (.iconst (-1), 1) := by decide +kernel
theorem dX12_go_13 : decode cX12_go 13 = .ok (.ireturn, 1) := by decide +kernel
theorem dX12_go_14 : decode cX12_go 14 = .ok (.iconst 0, 1) := by decide +kernel
theorem dX12_go_15 : decode cX12_go 15 = .ok (.istore_n 2, 1) := by decide +kernel
theorem dX12_go_16 : decode cX12_go 16 = .ok (.iconst 0, 1) := by decide +kernel
theorem dX12_go_17 : decode cX12_go 17 = .ok (.istore_n 3, 1) := by decide +kernel
theorem dX12_go_18 : decode cX12_go 18 = .ok (.iload_n 3, 1) := by decide +kernel
theorem dX12_go_19 : decode cX12_go 19 = .ok (.iload_n 1, 1) := by decide +kernel
theorem dX12_go_20 : decode cX12_go 20 = .ok (.if_icmp .ge 18, 3) := by decide +kernel
theorem dX12_go_23 : decode cX12_go 23 = .ok (.iload_n 2, 1) := by decide +kernel
theorem dX12_go_24 : decode cX12_go 24 = .ok (.ifCond .ne 14, 3) := by decide +kernel
theorem dX12_go_27 : decode cX12_go 27 = .ok (.aload_n 0, 1) := by decide +kernel
theorem dX12_go_28 : decode cX12_go 28 = .ok (.invokevirtual 573, 3) := by decide +kernel
theorem dX12_go_31 : decode cX12_go 31 = .ok (.istore_n 2, 1) := by decide +kernel
theorem dX12_go_32 : decode cX12_go 32 = .ok (.iinc 3 1, 3) := by decide +kernel
theorem dX12_go_35 : decode cX12_go 35 = .ok (.goto (-17), 3) := by decide +kernel
theorem dX12_go_38 : decode cX12_go 38 = .ok (.iload_n 2, 1) := by decide +kernel
theorem dX12_go_39 : decode cX12_go 39 = .ok (.ireturn, 1) := by decide +kernel
theorem dX12_part_0 : decode cX12_part 0 = .ok (.iload_n 0, 1) := by decide +kernel
theorem dX12_part_1 : decode cX12_part 1 = .ok (.iload_n 1, 1) := by decide +kernel
theorem dX12_part_2 : decode cX12_part 2 = .ok (.iushr, 1) := by decide +kernel
theorem dX12_part_3 : decode cX12_part 3 = .ok (.iconst 1, 1) := by decide +kernel
theorem dX12_part_4 : decode cX12_part 4 = .ok (.iload_n 2, 1) := by decide +kernel
theorem dX12_part_5 : decode cX12_part 5 = .ok (.ishl, 1) := by decide +kernel
theorem dX12_part_6 : decode cX12_part 6 = .ok (.iconst 1, 1) := by decide +kernel
theorem dX12_part_7 : decode cX12_part 7 = .ok (.isub, 1) := by decide +kernel
theorem dX12_part_8 : decode cX12_part 8 = .ok (.iand, 1) := by decide +kernel
theorem dX12_part_9 : decode cX12_part 9 = .ok (.ireturn, 1) := by decide +kernel
theorem dX12_isOut_0 : decode cX12_isOut 0 = .ok (.iload_n 0, 1) := by decide +kernel
theorem dX12_isOut_1 : decode cX12_isOut 1 = .ok (.ifCond .lt 10, 3) := by decide +kernel
theorem dX12_isOut_4 : decode cX12_isOut 4 = .ok (.iload_n 0, 1) := by decide +kernel
theorem dX12_isOut_5 : decode cX12_isOut 5 = .ok (.sipush 16383, 3) := by decide +kernel
theorem dX12_isOut_8 : decode cX12_isOut 8 = .ok (.if_icmp .le 7, 3) := by decide +kernel
theorem dX12_isOut_15 : decode cX12_isOut 15 = .ok (.iconst 0, 1) := by decide +kernel
theorem dX12_isOut_16 : decode cX12_isOut 16 = .ok (.ireturn, 1) := by decide +kernel
theorem dX12_oneWord_0 : decode cX12_oneWord 0 = .ok (.aload_n 0, 1) := by decide +kernel
theorem dX12_oneWord_1 : decode cX12_oneWord 1 = .ok (.getfield 150, 3) := by decide +kernel
theorem dX12_oneWord_4 : decode cX12_oneWord 4 = .ok (.bipush 32, 2) := by decide +kernel
theorem dX12_oneWord_6 : decode cX12_oneWord 6 = .ok (.iaload, 1) := by decide +kernel
theorem dX12_oneWord_7 : decode cX12_oneWord 7 = .ok (.istore_n 1, 1) := by decide +kernel
theorem dX12_oneWord_8 : decode cX12_oneWord 8 = .ok (.iload_n 1, 1) := by decide +kernel
theorem dX12_oneWord_9 : decode cX12_oneWord 9 = .ok (.iconst 3, 1) := by decide +kernel
theorem dX12_oneWord_10 : decode cX12_oneWord 10 = .ok (.iand, 1) := by decide +kernel
theorem dX12_oneWord_11 : decode cX12_oneWord 11 = .ok (.ifCond .ne 10, 3) := by decide +kernel
theorem dX12_oneWord_14 : decode cX12_oneWord 14 = .ok (.iload_n 1, 1) := by decide +kernel
theorem dX12_oneWord_15 : decode cX12_oneWord 15 = .ok (.invokestatic 576, 3) := by decide +kernel
theorem dX12_oneWord_18 : decode cX12_oneWord 18 = .ok (.ifCond .eq 5, 3) := by decide +kernel
theorem dX12_oneWord_23 : decode cX12_oneWord 23 = .ok (.aload_n 0, 1) := by decide +kernel
theorem dX12_oneWord_24 : decode cX12_oneWord 24 = .ok (.getfield 147, 3) := by decide +kernel
theorem dX12_oneWord_27 : decode cX12_oneWord 27 = .ok (.iload_n 1, 1) := by decide +kernel
theorem dX12_oneWord_28 : decode cX12_oneWord 28 = .ok (.iconst 2, 1) := by decide +kernel
theorem dX12_oneWord_29 : decode cX12_oneWord 29 = .ok (.ishr, 1) := by decide +kernel
theorem dX12_oneWord_30 : decode cX12_oneWord 30 = .ok (.iaload, 1) := by decide +kernel
theorem dX12_oneWord_31 : decode cX12_oneWord 31 = .ok (.istore_n 2, 1) := by decide +kernel
theorem dX12_oneWord_32 : decode cX12_oneWord 32 = .ok (.iload_n 2, 1) := by decide +kernel
theorem dX12_oneWord_33 : decode cX12_oneWord 33 = .ok (.bipush 7, 2) := by decide +kernel
theorem dX12_oneWord_35 : decode cX12_oneWord 35 = .ok (.iconst 5, 1) := by decide +kernel
theorem dX12_oneWord_36 : decode cX12_oneWord 36 = .ok (.invokestatic 579, 3) := by decide +kernel
theorem dX12_oneWord_39 : decode cX12_oneWord 39 = .ok (.istore_n 3, 1) := by decide +kernel
theorem dX12_oneWord_40 : decode cX12_oneWord 40 = .ok (.iload_n 2, 1) := by decide +kernel
theorem dX12_oneWord_41 : decode cX12_oneWord 41 = .ok (.bipush 12, 2) := by decide +kernel
theorem dX12_oneWord_43 : decode cX12_oneWord 43 = .ok (.iconst 3, 1) := by decide +kernel
theorem dX12_oneWord_44 : decode cX12_oneWord 44 = .ok (.invokestatic 579, 3) := by decide +kernel
theorem dX12_oneWord_47 : decode cX12_oneWord 47 = .ok (.istore 4, 2) := by decide +kernel
theorem dX12_oneWord_49 : decode cX12_oneWord 49 = .ok (.iload_n 2, 1) := by decide +kernel
theorem dX12_oneWord_50 : decode cX12_oneWord 50 = .ok (.bipush 25, 2) := by decide +kernel
theorem dX12_oneWord_52 : decode cX12_oneWord 52 = .ok (.bipush 7, 2) := by decide +kernel
theorem dX12_oneWord_54 : decode cX12_oneWord 54 = .ok (.invokestatic 579, 3) := by decide +kernel
theorem dX12_oneWord_57 : decode cX12_oneWord 57 = .ok (.istore 5, 2) := by decide +kernel
theorem dX12_oneWord_59 : decode cX12_oneWord 59 = .ok (.aload_n 0, 1) := by decide +kernel
theorem dX12_oneWord_60 : decode cX12_oneWord 60 = .ok (.getfield 150, 3) := by decide +kernel
theorem dX12_oneWord_63 : decode cX12_oneWord 63 = .ok (.iload_n 2, 1) := by decide +kernel
theorem dX12_oneWord_64 : decode cX12_oneWord 64 = .ok (.bipush 15, 2) := by decide +kernel
theorem dX12_oneWord_66 : decode cX12_oneWord 66 = .ok (.iconst 5, 1) := by decide +kernel
theorem dX12_oneWord_67 : decode cX12_oneWord 67 = .ok (.invokestatic 579, 3) := by decide +kernel
theorem dX12_oneWord_70 : decode cX12_oneWord 70 = .ok (.iaload, 1) := by decide +kernel
theorem dX12_oneWord_71 : decode cX12_oneWord 71 = .ok (.istore 6, 2) := by decide +kernel
theorem dX12_oneWord_73 : decode cX12_oneWord 73 = .ok (.aload_n 0, 1) := by decide +kernel
theorem dX12_oneWord_74 : decode cX12_oneWord 74 = .ok (.getfield 150, 3) := by decide +kernel
theorem dX12_oneWord_77 : decode cX12_oneWord 77 = .ok (.iload_n 2, 1) := by decide +kernel
theorem dX12_oneWord_78 : decode cX12_oneWord 78 = .ok (.bipush 20, 2) := by decide +kernel
theorem dX12_oneWord_80 : decode cX12_oneWord 80 = .ok (.iconst 5, 1) := by decide +kernel
theorem dX12_oneWord_81 : decode cX12_oneWord 81 = .ok (.invokestatic 579, 3) := by decide +kernel
theorem dX12_oneWord_84 : decode cX12_oneWord 84 = .ok (.iaload, 1) := by decide +kernel
theorem dX12_oneWord_85 : decode cX12_oneWord 85 = .ok (.istore 7, 2) := by decide +kernel
theorem dX12_oneWord_87 : decode cX12_oneWord 87 = .ok (.iload_n 2, 1) := by decide +kernel
theorem dX12_oneWord_88 : decode cX12_oneWord 88 = .ok (.bipush 20, 2) := by decide +kernel
theorem dX12_oneWord_90 : decode cX12_oneWord 90 = .ok (.ishr, 1) := by decide +kernel
theorem dX12_oneWord_91 : decode cX12_oneWord 91 = .ok (.istore 8, 2) := by decide +kernel
theorem dX12_oneWord_93 : decode cX12_oneWord 93 = .ok (.iload_n 2, 1) := by decide +kernel
theorem dX12_oneWord_94 : decode cX12_oneWord 94 = .ok (.iconst 0, 1) := by decide +kernel
theorem dX12_oneWord_95 : decode cX12_oneWord 95 = .ok (.bipush 7, 2) := by decide +kernel
theorem dX12_oneWord_97 : decode cX12_oneWord 97 = .ok (.invokestatic 579, 3) := by decide +kernel
theorem dX12_oneWord_100 : decode cX12_oneWord 100 = .ok (.lookupswitch 346 #[(3, 257), (15, 329), (19, 292), (23, 110), (35, 271), (51, 314), (55, 92), (99, 204), (103, 180), (111, 130)], 92) := by decide +kernel
theorem dX12_oneWord_446 : decode cX12_oneWord 446 = .ok (.iload_n 2, 1) := by decide +kernel
theorem dX12_oneWord_447 : decode cX12_oneWord 447 = .ok (.bipush 115, 2) := by decide +kernel
theorem dX12_oneWord_449 : decode cX12_oneWord 449 = .ok (.if_icmp .eq 12, 3) := by decide +kernel
theorem dX12_oneWord_452 : decode cX12_oneWord 452 = .ok (.iload_n 2, 1) := by decide +kernel
theorem dX12_oneWord_453 : decode cX12_oneWord 453 = .ok (.ldc_w 610, 3) := by decide +kernel
theorem dX12_oneWord_456 : decode cX12_oneWord 456 = .ok (.if_icmp .eq 5, 3) := by decide +kernel
theorem dX12_oneWord_459 : decode cX12_oneWord 459 = .ok (.iconst 2, 1) := by decide +kernel
theorem dX12_oneWord_460 : decode cX12_oneWord 460 = .ok (.ireturn, 1) := by decide +kernel
