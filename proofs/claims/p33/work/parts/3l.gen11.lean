theorem dL_words_0 : decode cL_words 0 = .ok (.aload_n 0, 1) := by decide +kernel
theorem dL_words_1 : decode cL_words 1 = .ok (.iconst 3, 1) := by decide +kernel
theorem dL_words_2 : decode cL_words 2 = .ok (.iload_n 1, 1) := by decide +kernel
theorem dL_words_3 : decode cL_words 3 = .ok (.iconst 3, 1) := by decide +kernel
theorem dL_words_4 : decode cL_words 4 = .ok (.iconst 0, 1) := by decide +kernel
theorem dL_words_5 : decode cL_words 5 = .ok (.iconst 0, 1) := by decide +kernel
theorem dL_words_6 : decode cL_words 6 = .ok (.invokestatic 174, 3) := by decide +kernel
theorem dL_words_9 : decode cL_words 9 = .ok (.istore_n 2, 1) := by decide +kernel
theorem dL_words_10 : decode cL_words 10 = .ok (.iconst 0, 1) := by decide +kernel
theorem dL_words_11 : decode cL_words 11 = .ok (.istore_n 3, 1) := by decide +kernel
theorem dL_words_12 : decode cL_words 12 = .ok (.iconst 0, 1) := by decide +kernel
theorem dL_words_13 : decode cL_words 13 = .ok (.istore 4, 2) := by decide +kernel
theorem dL_words_15 : decode cL_words 15 = .ok (.iconst 0, 1) := by decide +kernel
theorem dL_words_16 : decode cL_words 16 = .ok (.istore 5, 2) := by decide +kernel
theorem dL_words_18 : decode cL_words 18 = .ok (.aload_n 0, 1) := by decide +kernel
theorem dL_words_19 : decode cL_words 19 = .ok (.bipush 6, 2) := by decide +kernel
theorem dL_words_21 : decode cL_words 21 = .ok (.iload_n 1, 1) := by decide +kernel
theorem dL_words_22 : decode cL_words 22 = .ok (.iload_n 2, 1) := by decide +kernel
theorem dL_words_23 : decode cL_words 23 = .ok (.iconst 0, 1) := by decide +kernel
theorem dL_words_24 : decode cL_words 24 = .ok (.iconst 0, 1) := by decide +kernel
theorem dL_words_25 : decode cL_words 25 = .ok (.invokestatic 174, 3) := by decide +kernel
theorem dL_words_28 : decode cL_words 28 = .ok (.ldc 15, 2) := by decide +kernel
theorem dL_words_30 : decode cL_words 30 = .ok (.if_icmp .ne 64, 3) := by decide +kernel
theorem dL_words_33 : decode cL_words 33 = .ok (.aload_n 0, 1) := by decide +kernel
theorem dL_words_34 : decode cL_words 34 = .ok (.bipush 6, 2) := by decide +kernel
theorem dL_words_36 : decode cL_words 36 = .ok (.iload_n 1, 1) := by decide +kernel
theorem dL_words_37 : decode cL_words 37 = .ok (.iconst (-1), 1) := by decide +kernel
theorem dL_words_38 : decode cL_words 38 = .ok (.iconst 0, 1) := by decide +kernel
theorem dL_words_39 : decode cL_words 39 = .ok (.iconst 0, 1) := by decide +kernel
theorem dL_words_40 : decode cL_words 40 = .ok (.invokestatic 174, 3) := by decide +kernel
theorem dL_words_43 : decode cL_words 43 = .ok (.ldc 15, 2) := by decide +kernel
theorem dL_words_45 : decode cL_words 45 = .ok (.if_icmp .ne 49, 3) := by decide +kernel
theorem dL_words_48 : decode cL_words 48 = .ok (.aload_n 0, 1) := by decide +kernel
theorem dL_words_49 : decode cL_words 49 = .ok (.bipush 18, 2) := by decide +kernel
theorem dL_words_51 : decode cL_words 51 = .ok (.iload_n 1, 1) := by decide +kernel
theorem dL_words_52 : decode cL_words 52 = .ok (.aload_n 0, 1) := by decide +kernel
theorem dL_words_53 : decode cL_words 53 = .ok (.bipush 6, 2) := by decide +kernel
theorem dL_words_55 : decode cL_words 55 = .ok (.invokestatic 180, 3) := by decide +kernel
theorem dL_words_58 : decode cL_words 58 = .ok (.iconst 0, 1) := by decide +kernel
theorem dL_words_59 : decode cL_words 59 = .ok (.iconst 0, 1) := by decide +kernel
theorem dL_words_60 : decode cL_words 60 = .ok (.invokestatic 174, 3) := by decide +kernel
theorem dL_words_63 : decode cL_words 63 = .ok (.iload_n 2, 1) := by decide +kernel
theorem dL_words_64 : decode cL_words 64 = .ok (.if_icmp .ne 30, 3) := by decide +kernel
theorem dL_words_67 : decode cL_words 67 = .ok (.aload_n 0, 1) := by decide +kernel
theorem dL_words_68 : decode cL_words 68 = .ok (.bipush 18, 2) := by decide +kernel
theorem dL_words_70 : decode cL_words 70 = .ok (.iload_n 1, 1) := by decide +kernel
theorem dL_words_71 : decode cL_words 71 = .ok (.iconst 1, 1) := by decide +kernel
theorem dL_words_72 : decode cL_words 72 = .ok (.iconst 0, 1) := by decide +kernel
theorem dL_words_73 : decode cL_words 73 = .ok (.iconst 0, 1) := by decide +kernel
theorem dL_words_74 : decode cL_words 74 = .ok (.invokestatic 174, 3) := by decide +kernel
theorem dL_words_77 : decode cL_words 77 = .ok (.aload_n 0, 1) := by decide +kernel
theorem dL_words_78 : decode cL_words 78 = .ok (.bipush 18, 2) := by decide +kernel
theorem dL_words_80 : decode cL_words 80 = .ok (.iload_n 1, 1) := by decide +kernel
theorem dL_words_81 : decode cL_words 81 = .ok (.iconst 3, 1) := by decide +kernel
theorem dL_words_82 : decode cL_words 82 = .ok (.iconst 0, 1) := by decide +kernel
theorem dL_words_83 : decode cL_words 83 = .ok (.iconst 0, 1) := by decide +kernel
theorem dL_words_84 : decode cL_words 84 = .ok (.invokestatic 174, 3) := by decide +kernel
theorem dL_words_87 : decode cL_words 87 = .ok (.if_icmp .lt 7, 3) := by decide +kernel
theorem dL_words_90 : decode cL_words 90 = .ok (.iconst 1, 1) := by decide +kernel
theorem dL_words_91 : decode cL_words 91 = .ok (.goto 4, 3) := by decide +kernel
theorem dL_words_94 : decode cL_words 94 = .ok (.iconst 0, 1) := by decide +kernel
theorem dL_words_95 : decode cL_words 95 = .ok (.istore 6, 2) := by decide +kernel
theorem dL_words_97 : decode cL_words 97 = .ok (.iconst 0, 1) := by decide +kernel
theorem dL_words_98 : decode cL_words 98 = .ok (.istore 7, 2) := by decide +kernel
theorem dL_words_100 : decode cL_words 100 = .ok (.iload 7, 2) := by decide +kernel
theorem dL_words_102 : decode cL_words 102 = .ok (.iload_n 2, 1) := by decide +kernel
theorem dL_words_103 : decode cL_words 103 = .ok (.if_icmp .ge 227, 3) := by decide +kernel
theorem dL_words_106 : decode cL_words 106 = .ok (.aload_n 0, 1) := by decide +kernel
theorem dL_words_107 : decode cL_words 107 = .ok (.bipush 6, 2) := by decide +kernel
theorem dL_words_109 : decode cL_words 109 = .ok (.iload_n 1, 1) := by decide +kernel
theorem dL_words_110 : decode cL_words 110 = .ok (.iload 7, 2) := by decide +kernel
theorem dL_words_112 : decode cL_words 112 = .ok (.iconst 0, 1) := by decide +kernel
theorem dL_words_113 : decode cL_words 113 = .ok (.iconst 0, 1) := by decide +kernel
theorem dL_words_114 : decode cL_words 114 = .ok (.invokestatic 174, 3) := by decide +kernel
theorem dL_words_117 : decode cL_words 117 = .ok (.istore 8, 2) := by decide +kernel
theorem dL_words_119 : decode cL_words 119 = .ok (.iload 6, 2) := by decide +kernel
theorem dL_words_121 : decode cL_words 121 = .ok (.iload 8, 2) := by decide +kernel
theorem dL_words_123 : decode cL_words 123 = .ok (.ifCond .le 40, 3) := by decide +kernel
theorem dL_words_126 : decode cL_words 126 = .ok (.aload_n 0, 1) := by decide +kernel
theorem dL_words_127 : decode cL_words 127 = .ok (.bipush 7, 2) := by decide +kernel
theorem dL_words_129 : decode cL_words 129 = .ok (.iload_n 1, 1) := by decide +kernel
theorem dL_words_130 : decode cL_words 130 = .ok (.iload 7, 2) := by decide +kernel
theorem dL_words_132 : decode cL_words 132 = .ok (.iload 8, 2) := by decide +kernel
theorem dL_words_134 : decode cL_words 134 = .ok (.iconst 0, 1) := by decide +kernel
theorem dL_words_135 : decode cL_words 135 = .ok (.invokestatic 174, 3) := by decide +kernel
theorem dL_words_138 : decode cL_words 138 = .ok (.bipush (-9), 2) := by decide +kernel
theorem dL_words_140 : decode cL_words 140 = .ok (.if_icmp .ne 23, 3) := by decide +kernel
theorem dL_words_143 : decode cL_words 143 = .ok (.aload_n 0, 1) := by decide +kernel
theorem dL_words_144 : decode cL_words 144 = .ok (.bipush 7, 2) := by decide +kernel
theorem dL_words_146 : decode cL_words 146 = .ok (.iload_n 1, 1) := by decide +kernel
theorem dL_words_147 : decode cL_words 147 = .ok (.iload 7, 2) := by decide +kernel
theorem dL_words_149 : decode cL_words 149 = .ok (.iconst (-1), 1) := by decide +kernel
theorem dL_words_150 : decode cL_words 150 = .ok (.iconst 0, 1) := by decide +kernel
theorem dL_words_151 : decode cL_words 151 = .ok (.invokestatic 174, 3) := by decide +kernel
theorem dL_words_154 : decode cL_words 154 = .ok (.ldc 18, 2) := by decide +kernel
theorem dL_words_156 : decode cL_words 156 = .ok (.if_icmp .ne 7, 3) := by decide +kernel
theorem dL_words_159 : decode cL_words 159 = .ok (.iconst 1, 1) := by decide +kernel
theorem dL_words_160 : decode cL_words 160 = .ok (.goto 4, 3) := by decide +kernel
theorem dL_words_163 : decode cL_words 163 = .ok (.iconst 0, 1) := by decide +kernel
theorem dL_words_164 : decode cL_words 164 = .ok (.iand, 1) := by decide +kernel
theorem dL_words_165 : decode cL_words 165 = .ok (.istore 6, 2) := by decide +kernel
theorem dL_words_167 : decode cL_words 167 = .ok (.iconst 0, 1) := by decide +kernel
theorem dL_words_168 : decode cL_words 168 = .ok (.istore 9, 2) := by decide +kernel
theorem dL_words_170 : decode cL_words 170 = .ok (.iload 9, 2) := by decide +kernel
theorem dL_words_172 : decode cL_words 172 = .ok (.iload 8, 2) := by decide +kernel
theorem dL_words_174 : decode cL_words 174 = .ok (.if_icmp .ge 62, 3) := by decide +kernel
theorem dL_words_177 : decode cL_words 177 = .ok (.aload_n 0, 1) := by decide +kernel
theorem dL_words_178 : decode cL_words 178 = .ok (.bipush 7, 2) := by decide +kernel
theorem dL_words_180 : decode cL_words 180 = .ok (.iload_n 1, 1) := by decide +kernel
theorem dL_words_181 : decode cL_words 181 = .ok (.iload 7, 2) := by decide +kernel
theorem dL_words_183 : decode cL_words 183 = .ok (.iload 9, 2) := by decide +kernel
theorem dL_words_185 : decode cL_words 185 = .ok (.iconst 0, 1) := by decide +kernel
theorem dL_words_186 : decode cL_words 186 = .ok (.invokestatic 174, 3) := by decide +kernel
theorem dL_words_189 : decode cL_words 189 = .ok (.istore 10, 2) := by decide +kernel
theorem dL_words_191 : decode cL_words 191 = .ok (.iload 6, 2) := by decide +kernel
theorem dL_words_193 : decode cL_words 193 = .ok (.iload 10, 2) := by decide +kernel
theorem dL_words_195 : decode cL_words 195 = .ok (.ifCond .lt 14, 3) := by decide +kernel
theorem dL_words_198 : decode cL_words 198 = .ok (.iload 10, 2) := by decide +kernel
theorem dL_words_200 : decode cL_words 200 = .ok (.bipush 26, 2) := by decide +kernel
theorem dL_words_202 : decode cL_words 202 = .ok (.if_icmp .gt 7, 3) := by decide +kernel
theorem dL_words_205 : decode cL_words 205 = .ok (.iconst 1, 1) := by decide +kernel
theorem dL_words_206 : decode cL_words 206 = .ok (.goto 4, 3) := by decide +kernel
theorem dL_words_209 : decode cL_words 209 = .ok (.iconst 0, 1) := by decide +kernel
theorem dL_words_210 : decode cL_words 210 = .ok (.iand, 1) := by decide +kernel
theorem dL_words_211 : decode cL_words 211 = .ok (.istore 6, 2) := by decide +kernel
theorem dL_words_213 : decode cL_words 213 = .ok (.iload 5, 2) := by decide +kernel
theorem dL_words_215 : decode cL_words 215 = .ok (.iload 10, 2) := by decide +kernel
theorem dL_words_217 : decode cL_words 217 = .ok (.bipush 26, 2) := by decide +kernel
theorem dL_words_219 : decode cL_words 219 = .ok (.if_icmp .ne 7, 3) := by decide +kernel
theorem dL_words_222 : decode cL_words 222 = .ok (.iconst 1, 1) := by decide +kernel
theorem dL_words_223 : decode cL_words 223 = .ok (.goto 4, 3) := by decide +kernel
theorem dL_words_226 : decode cL_words 226 = .ok (.iconst 0, 1) := by decide +kernel
theorem dL_words_227 : decode cL_words 227 = .ok (.iadd, 1) := by decide +kernel
theorem dL_words_228 : decode cL_words 228 = .ok (.istore 5, 2) := by decide +kernel
theorem dL_words_230 : decode cL_words 230 = .ok (.iinc 9 1, 3) := by decide +kernel
theorem dL_words_233 : decode cL_words 233 = .ok (.goto (-63), 3) := by decide +kernel
theorem dL_words_236 : decode cL_words 236 = .ok (.aload_n 0, 1) := by decide +kernel
theorem dL_words_237 : decode cL_words 237 = .ok (.iload_n 1, 1) := by decide +kernel
theorem dL_words_238 : decode cL_words 238 = .ok (.iconst 1, 1) := by decide +kernel
theorem dL_words_239 : decode cL_words 239 = .ok (.aload_n 0, 1) := by decide +kernel
theorem dL_words_240 : decode cL_words 240 = .ok (.bipush 7, 2) := by decide +kernel
theorem dL_words_242 : decode cL_words 242 = .ok (.iload_n 1, 1) := by decide +kernel
theorem dL_words_243 : decode cL_words 243 = .ok (.iload 7, 2) := by decide +kernel
theorem dL_words_245 : decode cL_words 245 = .ok (.iconst 0, 1) := by decide +kernel
theorem dL_words_246 : decode cL_words 246 = .ok (.iconst 0, 1) := by decide +kernel
theorem dL_words_247 : decode cL_words 247 = .ok (.invokestatic 174, 3) := by decide +kernel
theorem dL_words_250 : decode cL_words 250 = .ok (.i2l, 1) := by decide +kernel
theorem dL_words_251 : decode cL_words 251 = .ok (.invokestatic 182, 3) := by decide +kernel
theorem dL_words_254 : decode cL_words 254 = .ok (.istore 9, 2) := by decide +kernel
theorem dL_words_256 : decode cL_words 256 = .ok (.iload 6, 2) := by decide +kernel
theorem dL_words_258 : decode cL_words 258 = .ok (.iload 9, 2) := by decide +kernel
theorem dL_words_260 : decode cL_words 260 = .ok (.ifCond .lt 39, 3) := by decide +kernel
theorem dL_words_263 : decode cL_words 263 = .ok (.iload 9, 2) := by decide +kernel
theorem dL_words_265 : decode cL_words 265 = .ok (.iload 7, 2) := by decide +kernel
theorem dL_words_267 : decode cL_words 267 = .ok (.if_icmp .gt 32, 3) := by decide +kernel
theorem dL_words_270 : decode cL_words 270 = .ok (.aload_n 0, 1) := by decide +kernel
theorem dL_words_271 : decode cL_words 271 = .ok (.bipush 7, 2) := by decide +kernel
theorem dL_words_273 : decode cL_words 273 = .ok (.iload_n 1, 1) := by decide +kernel
theorem dL_words_274 : decode cL_words 274 = .ok (.iload 9, 2) := by decide +kernel
theorem dL_words_276 : decode cL_words 276 = .ok (.iconst 0, 1) := by decide +kernel
theorem dL_words_277 : decode cL_words 277 = .ok (.iconst 0, 1) := by decide +kernel
theorem dL_words_278 : decode cL_words 278 = .ok (.invokestatic 174, 3) := by decide +kernel
theorem dL_words_281 : decode cL_words 281 = .ok (.aload_n 0, 1) := by decide +kernel
theorem dL_words_282 : decode cL_words 282 = .ok (.bipush 7, 2) := by decide +kernel
theorem dL_words_284 : decode cL_words 284 = .ok (.iload_n 1, 1) := by decide +kernel
theorem dL_words_285 : decode cL_words 285 = .ok (.iload 7, 2) := by decide +kernel
theorem dL_words_287 : decode cL_words 287 = .ok (.iconst 0, 1) := by decide +kernel
theorem dL_words_288 : decode cL_words 288 = .ok (.iconst 0, 1) := by decide +kernel
theorem dL_words_289 : decode cL_words 289 = .ok (.invokestatic 174, 3) := by decide +kernel
theorem dL_words_292 : decode cL_words 292 = .ok (.if_icmp .ne 7, 3) := by decide +kernel
theorem dL_words_295 : decode cL_words 295 = .ok (.iconst 1, 1) := by decide +kernel
theorem dL_words_296 : decode cL_words 296 = .ok (.goto 4, 3) := by decide +kernel
theorem dL_words_299 : decode cL_words 299 = .ok (.iconst 0, 1) := by decide +kernel
theorem dL_words_300 : decode cL_words 300 = .ok (.iand, 1) := by decide +kernel
theorem dL_words_301 : decode cL_words 301 = .ok (.istore 6, 2) := by decide +kernel
theorem dL_words_303 : decode cL_words 303 = .ok (.iload_n 3, 1) := by decide +kernel
theorem dL_words_304 : decode cL_words 304 = .ok (.iload 8, 2) := by decide +kernel
theorem dL_words_306 : decode cL_words 306 = .ok (.iadd, 1) := by decide +kernel
theorem dL_words_307 : decode cL_words 307 = .ok (.istore_n 3, 1) := by decide +kernel
theorem dL_words_308 : decode cL_words 308 = .ok (.iload 8, 2) := by decide +kernel
theorem dL_words_310 : decode cL_words 310 = .ok (.iload 4, 2) := by decide +kernel
theorem dL_words_312 : decode cL_words 312 = .ok (.if_icmp .le 8, 3) := by decide +kernel
theorem dL_words_315 : decode cL_words 315 = .ok (.iload 8, 2) := by decide +kernel
theorem dL_words_317 : decode cL_words 317 = .ok (.goto 5, 3) := by decide +kernel
theorem dL_words_320 : decode cL_words 320 = .ok (.iload 4, 2) := by decide +kernel
theorem dL_words_322 : decode cL_words 322 = .ok (.istore 4, 2) := by decide +kernel
theorem dL_words_324 : decode cL_words 324 = .ok (.iinc 7 1, 3) := by decide +kernel
theorem dL_words_327 : decode cL_words 327 = .ok (.goto (-227), 3) := by decide +kernel
theorem dL_words_330 : decode cL_words 330 = .ok (.iconst 0, 1) := by decide +kernel
theorem dL_words_331 : decode cL_words 331 = .ok (.istore 7, 2) := by decide +kernel
theorem dL_words_333 : decode cL_words 333 = .ok (.iconst 0, 1) := by decide +kernel
theorem dL_words_334 : decode cL_words 334 = .ok (.istore 8, 2) := by decide +kernel
theorem dL_words_336 : decode cL_words 336 = .ok (.iload 8, 2) := by decide +kernel
theorem dL_words_338 : decode cL_words 338 = .ok (.bipush 27, 2) := by decide +kernel
theorem dL_words_340 : decode cL_words 340 = .ok (.if_icmp .ge 25, 3) := by decide +kernel
theorem dL_words_343 : decode cL_words 343 = .ok (.iload 7, 2) := by decide +kernel
theorem dL_words_345 : decode cL_words 345 = .ok (.aload_n 0, 1) := by decide +kernel
theorem dL_words_346 : decode cL_words 346 = .ok (.bipush 15, 2) := by decide +kernel
theorem dL_words_348 : decode cL_words 348 = .ok (.iload_n 1, 1) := by decide +kernel
theorem dL_words_349 : decode cL_words 349 = .ok (.iload 8, 2) := by decide +kernel
theorem dL_words_351 : decode cL_words 351 = .ok (.iconst 0, 1) := by decide +kernel
theorem dL_words_352 : decode cL_words 352 = .ok (.iconst 0, 1) := by decide +kernel
theorem dL_words_353 : decode cL_words 353 = .ok (.invokestatic 174, 3) := by decide +kernel
theorem dL_words_356 : decode cL_words 356 = .ok (.iadd, 1) := by decide +kernel
theorem dL_words_357 : decode cL_words 357 = .ok (.istore 7, 2) := by decide +kernel
theorem dL_words_359 : decode cL_words 359 = .ok (.iinc 8 1, 3) := by decide +kernel
theorem dL_words_362 : decode cL_words 362 = .ok (.goto (-26), 3) := by decide +kernel
theorem dL_words_365 : decode cL_words 365 = .ok (.aload_n 0, 1) := by decide +kernel
theorem dL_words_366 : decode cL_words 366 = .ok (.iconst 3, 1) := by decide +kernel
theorem dL_words_367 : decode cL_words 367 = .ok (.iload_n 1, 1) := by decide +kernel
theorem dL_words_368 : decode cL_words 368 = .ok (.iconst 2, 1) := by decide +kernel
theorem dL_words_369 : decode cL_words 369 = .ok (.iconst 0, 1) := by decide +kernel
theorem dL_words_370 : decode cL_words 370 = .ok (.iconst 0, 1) := by decide +kernel
theorem dL_words_371 : decode cL_words 371 = .ok (.invokestatic 174, 3) := by decide +kernel
theorem dL_words_374 : decode cL_words 374 = .ok (.ifCond .ne 11, 3) := by decide +kernel
theorem dL_words_377 : decode cL_words 377 = .ok (.aload_n 0, 1) := by decide +kernel
theorem dL_words_378 : decode cL_words 378 = .ok (.iconst 1, 1) := by decide +kernel
theorem dL_words_379 : decode cL_words 379 = .ok (.invokestatic 180, 3) := by decide +kernel
theorem dL_words_382 : decode cL_words 382 = .ok (.goto 8, 3) := by decide +kernel
theorem dL_words_385 : decode cL_words 385 = .ok (.aload_n 0, 1) := by decide +kernel
theorem dL_words_386 : decode cL_words 386 = .ok (.iconst 0, 1) := by decide +kernel
theorem dL_words_387 : decode cL_words 387 = .ok (.invokestatic 180, 3) := by decide +kernel
theorem dL_words_390 : decode cL_words 390 = .ok (.istore 8, 2) := by decide +kernel
theorem dL_words_392 : decode cL_words 392 = .ok (.aload_n 0, 1) := by decide +kernel
theorem dL_words_393 : decode cL_words 393 = .ok (.bipush 8, 2) := by decide +kernel
theorem dL_words_395 : decode cL_words 395 = .ok (.iload_n 1, 1) := by decide +kernel
theorem dL_words_396 : decode cL_words 396 = .ok (.iadd, 1) := by decide +kernel
theorem dL_words_397 : decode cL_words 397 = .ok (.invokestatic 180, 3) := by decide +kernel
theorem dL_words_400 : decode cL_words 400 = .ok (.istore 9, 2) := by decide +kernel
theorem dL_words_402 : decode cL_words 402 = .ok (.iload 6, 2) := by decide +kernel
theorem dL_words_404 : decode cL_words 404 = .ok (.ifCond .eq 80, 3) := by decide +kernel
theorem dL_words_407 : decode cL_words 407 = .ok (.iload 7, 2) := by decide +kernel
theorem dL_words_409 : decode cL_words 409 = .ok (.iload_n 3, 1) := by decide +kernel
theorem dL_words_410 : decode cL_words 410 = .ok (.if_icmp .ne 74, 3) := by decide +kernel
theorem dL_words_413 : decode cL_words 413 = .ok (.aload_n 0, 1) := by decide +kernel
theorem dL_words_414 : decode cL_words 414 = .ok (.bipush 15, 2) := by decide +kernel
theorem dL_words_416 : decode cL_words 416 = .ok (.iload_n 1, 1) := by decide +kernel
theorem dL_words_417 : decode cL_words 417 = .ok (.bipush 26, 2) := by decide +kernel
theorem dL_words_419 : decode cL_words 419 = .ok (.iconst 0, 1) := by decide +kernel
theorem dL_words_420 : decode cL_words 420 = .ok (.iconst 0, 1) := by decide +kernel
theorem dL_words_421 : decode cL_words 421 = .ok (.invokestatic 174, 3) := by decide +kernel
theorem dL_words_424 : decode cL_words 424 = .ok (.iload 5, 2) := by decide +kernel
theorem dL_words_426 : decode cL_words 426 = .ok (.if_icmp .ne 58, 3) := by decide +kernel
theorem dL_words_429 : decode cL_words 429 = .ok (.iload 4, 2) := by decide +kernel
theorem dL_words_431 : decode cL_words 431 = .ok (.aload_n 0, 1) := by decide +kernel
theorem dL_words_432 : decode cL_words 432 = .ok (.iconst 3, 1) := by decide +kernel
theorem dL_words_433 : decode cL_words 433 = .ok (.iload_n 1, 1) := by decide +kernel
theorem dL_words_434 : decode cL_words 434 = .ok (.iconst 4, 1) := by decide +kernel
theorem dL_words_435 : decode cL_words 435 = .ok (.iconst 0, 1) := by decide +kernel
theorem dL_words_436 : decode cL_words 436 = .ok (.iconst 0, 1) := by decide +kernel
theorem dL_words_437 : decode cL_words 437 = .ok (.invokestatic 174, 3) := by decide +kernel
theorem dL_words_440 : decode cL_words 440 = .ok (.if_icmp .ne 44, 3) := by decide +kernel
theorem dL_words_443 : decode cL_words 443 = .ok (.iload_n 3, 1) := by decide +kernel
theorem dL_words_444 : decode cL_words 444 = .ok (.iload 9, 2) := by decide +kernel
theorem dL_words_446 : decode cL_words 446 = .ok (.if_icmp .gt 38, 3) := by decide +kernel
theorem dL_words_449 : decode cL_words 449 = .ok (.iload 9, 2) := by decide +kernel
theorem dL_words_451 : decode cL_words 451 = .ok (.iload_n 3, 1) := by decide +kernel
theorem dL_words_452 : decode cL_words 452 = .ok (.isub, 1) := by decide +kernel
theorem dL_words_453 : decode cL_words 453 = .ok (.iload 8, 2) := by decide +kernel
theorem dL_words_455 : decode cL_words 455 = .ok (.if_icmp .ge 29, 3) := by decide +kernel
theorem dL_words_458 : decode cL_words 458 = .ok (.iload_n 2, 1) := by decide +kernel
theorem dL_words_459 : decode cL_words 459 = .ok (.ifCond .le 7, 3) := by decide +kernel
theorem dL_words_462 : decode cL_words 462 = .ok (.iconst 1, 1) := by decide +kernel
theorem dL_words_463 : decode cL_words 463 = .ok (.goto 4, 3) := by decide +kernel
theorem dL_words_466 : decode cL_words 466 = .ok (.iconst 0, 1) := by decide +kernel
theorem dL_words_467 : decode cL_words 467 = .ok (.iload 9, 2) := by decide +kernel
theorem dL_words_469 : decode cL_words 469 = .ok (.ifCond .le 7, 3) := by decide +kernel
theorem dL_words_472 : decode cL_words 472 = .ok (.iconst 1, 1) := by decide +kernel
theorem dL_words_473 : decode cL_words 473 = .ok (.goto 4, 3) := by decide +kernel
theorem dL_words_476 : decode cL_words 476 = .ok (.iconst 0, 1) := by decide +kernel
theorem dL_words_477 : decode cL_words 477 = .ok (.if_icmp .ne 7, 3) := by decide +kernel
theorem dL_words_480 : decode cL_words 480 = .ok (.iconst 1, 1) := by decide +kernel
theorem dL_words_481 : decode cL_words 481 = .ok (.goto 4, 3) := by decide +kernel
theorem dL_words_484 : decode cL_words 484 = .ok (.iconst 0, 1) := by decide +kernel
theorem dL_words_485 : decode cL_words 485 = .ok (.ireturn, 1) := by decide +kernel
def LL_words_170 {ρ : Type} (T : zT) (x22 : Nat) (x23 : Int32) (x24 : Int32) (x25 : Int32) (x26 : Int32) (x27 : Int32) (x28 : Int32) (K0 : Int32 → Int32 → zH → Option (ρ × zH × Nat)) : Nat → Int32 → Int32 → Int32 → zH → Option (ρ × zH × Nat)
  | 0, _, _, _, _ => none
  | k + 1, x29, x30, x31, h32 => if x28 ≤ x31 then (K0 x29 x30 h32) else (zJ (fun (x33 : Int32) (x34 : Int32) (x35 : Int32) (h36 : zH) => zJ (fun (x38 : Int32) (x39 : Int32) (x40 : Int32) => LL_words_170 T x22 x23 x24 x25 x26 x27 x28 K0 k (x40 + x39) x38 (x31 + 1) h36) (fun J41 => if x33 = 26 then (J41 (x35 &&& x34) 1 x29) else (J41 (x35 &&& x34) 0 x29))) (fun J37 => zJ (fun (x42 : Int32) (x43 : Int32) (h44 : zH) => J37 x42 0 x43 h44) (fun J45 => zcl (FL_call T x22 7 x23 x27 x31 0 h32) fun x47 h48 => if x47 < 0 then (J45 x47 x30 h48) else (if 26 < x47 then (J45 x47 x30 h48) else (J37 x47 1 x30 h48)))))
set_option maxHeartbeats 4000000 in
set_option maxRecDepth 100000 in
theorem LL_words_170_ok {X : zX} (CL : zCL X cL_words 11 RL "words" (some .boolean) 11 241) {Z : State → Prop} {hi : Nat} {ρ : Type} {rv : ρ} {rh : zH} {x22 : Nat} {x23 : Int32} {x24 : Int32} {x25 : Int32} {x26 : Int32} {x27 : Int32} {x28 : Int32} {K0 : Int32 → Int32 → zH → Option (ρ × zH × Nat)} (hK0 : ∀ (y5 : Int32) (y6 : Int32) (g9 : zH) (n9 : Nat), K0 y5 y6 g9 = some (rv, rh, n9) → zW X 11 Z n9 (6 * n9) false hi g9 236 [(0, .ref x22), (1, .int x23), (2, .int x24), (3, .int x25), (4, .int x26), (5, .int y5), (6, .int y6), (7, .int x27), (8, .int x28)] []) : ∀ (k : Nat) (x29 : Int32) (x30 : Int32) (x31 : Int32) (h32 : zH) (n9 : Nat), LL_words_170 (xT X) x22 x23 x24 x25 x26 x27 x28 K0 k x29 x30 x31 h32 = some (rv, rh, n9) → zW X 11 Z n9 (6 * n9) false hi h32 170 [(0, .ref x22), (1, .int x23), (2, .int x24), (3, .int x25), (4, .int x26), (5, .int x29), (6, .int x30), (7, .int x27), (8, .int x28), (9, .int x31)] [] := by
  have C := CL.1
  intro k
  induction k with
  | zero =>
    intro x29 x30 x31 h32 n9 hf
    have hf : none = some (rv, rh, n9) := hf
    cases hf
  | succ k ih =>
    intro x29 x30 x31 h32 n9 hf
    rw [LL_words_170.eq_2] at hf
    refine z_iload C dL_words_170 9 rfl ?_
    refine z_iload C dL_words_172 8 rfl ?_
    refine z_icmp_ge (tgt := 236) C dL_words_174 (by decide) hf (fun hf => ?_) (fun hf => ?_)
    · refine z_sub [0, 1, 2, 3, 4, 5, 6, 7, 8] rfl ?_
      exact hK0 _ _ _ _ hf
    · refine z_join (P := fun J => ∀ (x33 : Int32) (x34 : Int32) (x35 : Int32) (h36 : zH) (n9 : Nat), J x33 x34 x35 h36 = some (rv, rh, n9) → zW X 11 Z n9 (6 * n9) false hi h36 210 [(0, .ref x22), (1, .int x23), (2, .int x24), (3, .int x25), (4, .int x26), (5, .int x29), (7, .int x27), (8, .int x28), (9, .int x31), (10, .int x33)] [.int x34, .int x35]) hf ?_ ?_
      · intro x33 x34 x35 h36 n9 hf
        refine z_join (P := fun J => ∀ (x38 : Int32) (x39 : Int32) (x40 : Int32) (n9 : Nat), J x38 x39 x40 = some (rv, rh, n9) → zW X 11 Z n9 (6 * n9) false hi h36 227 [(0, .ref x22), (1, .int x23), (2, .int x24), (3, .int x25), (4, .int x26), (6, .int x38), (7, .int x27), (8, .int x28), (9, .int x31)] [.int x39, .int x40]) hf ?_ ?_
        · intro x38 x39 x40 n9 hf
          refine z_iadd C dL_words_227 ?_
          refine z_istore C dL_words_228 (by decide) (lv' := [(5, .int (x40 + x39)), (0, .ref x22), (1, .int x23), (2, .int x24), (3, .int x25), (4, .int x26), (6, .int x38), (7, .int x27), (8, .int x28), (9, .int x31)]) rfl ?_
          refine z_iinc C dL_words_230 (k := 9) (d := 1) rfl (by decide) (by decide) (lv' := [(9, .int (x31 + 1)), (5, .int (x40 + x39)), (0, .ref x22), (1, .int x23), (2, .int x24), (3, .int x25), (4, .int x26), (6, .int x38), (7, .int x27), (8, .int x28)]) rfl ?_
          refine z_goto (tgt := 170) C dL_words_233 (by decide) ?_
          refine z_sub [2, 3, 4, 5, 6, 1, 7, 8, 9, 0] rfl ?_
          exact ih _ _ _ _ _ hf
        · intro J41 kJ41 hf
          refine z_iand C dL_words_210 ?_
          refine z_istore C dL_words_211 (by decide) (lv' := [(6, .int (x35 &&& x34)), (0, .ref x22), (1, .int x23), (2, .int x24), (3, .int x25), (4, .int x26), (5, .int x29), (7, .int x27), (8, .int x28), (9, .int x31), (10, .int x33)]) rfl ?_
          refine z_iload C dL_words_213 6 rfl ?_
          refine z_iload C dL_words_215 10 rfl ?_
          refine z_bipush C (v := 26) dL_words_217 (by decide) ?_
          refine z_icmp_ne (tgt := 226) C dL_words_219 (by decide) hf (fun hf => ?_) (fun hf => ?_)
          · refine z_iconst C (v := 0) dL_words_226 (by decide) ?_
            refine z_sub [1, 2, 3, 4, 5, 0, 7, 8, 9] rfl ?_
            exact kJ41 _ _ _ _ hf
          · refine z_iconst C (v := 1) dL_words_222 (by decide) ?_
            refine z_goto (tgt := 227) C dL_words_223 (by decide) ?_
            refine z_sub [1, 2, 3, 4, 5, 0, 7, 8, 9] rfl ?_
            exact kJ41 _ _ _ _ hf
      · intro J37 kJ37 hf
        refine z_join (P := fun J => ∀ (x42 : Int32) (x43 : Int32) (h44 : zH) (n9 : Nat), J x42 x43 h44 = some (rv, rh, n9) → zW X 11 Z n9 (6 * n9) false hi h44 209 [(0, .ref x22), (1, .int x23), (2, .int x24), (3, .int x25), (4, .int x26), (5, .int x29), (7, .int x27), (8, .int x28), (9, .int x31), (10, .int x42)] [.int x43]) hf ?_ ?_
        · intro x42 x43 h44 n9 hf
          refine z_iconst C (v := 0) dL_words_209 (by decide) ?_
          exact kJ37 _ _ _ _ _ hf
        · intro J45 kJ45 hf
          refine z_aload_n C dL_words_177 0 rfl rfl ?_
          refine z_bipush C (v := 7) dL_words_178 (by decide) ?_
          refine z_iload_n C dL_words_180 1 rfl rfl ?_
          refine z_iload C dL_words_181 7 rfl ?_
          refine z_iload C dL_words_183 9 rfl ?_
          refine z_iconst C (v := 0) dL_words_185 (by decide) ?_
          obtain ⟨x47, h48, m49, n9, g46, hf, e9⟩ := zclE hf
          refine z_callL (kc' := n9) (ks' := 6 * n9) CL (ML_call (xl X) CL.2.2.2 (xD X) (xT X) (xlo X) hi g46) cw_L_174 ys_L_call dL_words_186 rfl ⟨Nat.le_of_ble_eq_true rfl, Nat.le_of_ble_eq_true rfl⟩ ⟨by show m49 + _ = _; omega, by show 6 * m49 + _ = _; omega⟩ (Nat.le_of_ble_eq_true rfl) (st := []) rfl ?_
          refine z_istore C dL_words_189 (by decide) (lv' := [(10, .int x47), (0, .ref x22), (1, .int x23), (2, .int x24), (3, .int x25), (4, .int x26), (5, .int x29), (6, .int x30), (7, .int x27), (8, .int x28), (9, .int x31)]) rfl ?_
          refine z_iload C dL_words_191 7 rfl ?_
          refine z_iload C dL_words_193 0 rfl ?_
          refine z_if_lt (tgt := 209) C dL_words_195 (by decide) hf (fun hf => ?_) (fun hf => ?_)
          · refine z_sub [1, 2, 3, 4, 5, 6, 8, 9, 10, 0] rfl ?_
            exact kJ45 _ _ _ _ hf
          · refine z_iload C dL_words_198 0 rfl ?_
            refine z_bipush C (v := 26) dL_words_200 (by decide) ?_
            refine z_icmp_gt (tgt := 209) C dL_words_202 (by decide) hf (fun hf => ?_) (fun hf => ?_)
            · refine z_sub [1, 2, 3, 4, 5, 6, 8, 9, 10, 0] rfl ?_
              exact kJ45 _ _ _ _ hf
            · refine z_iconst C (v := 1) dL_words_205 (by decide) ?_
              refine z_goto (tgt := 210) C dL_words_206 (by decide) ?_
              refine z_sub [1, 2, 3, 4, 5, 6, 8, 9, 10, 0] rfl ?_
              exact kJ37 _ _ _ _ _ hf
def LL_words_100 {ρ : Type} (T : zT) (x8 : Nat) (x9 : Int32) (x10 : Int32) (K0 : Int32 → Int32 → Int32 → Int32 → zH → Option (ρ × zH × Nat)) : Nat → Int32 → Int32 → Int32 → Int32 → Int32 → zH → Option (ρ × zH × Nat)
  | 0, _, _, _, _, _, _ => none
  | k + 1, x11, x12, x13, x14, x15, h16 => if x10 ≤ x15 then (K0 x11 x12 x13 x14 h16) else (zJ (fun (x17 : Int32) (x18 : Int32) (x19 : Int32) (h20 : zH) => LL_words_170 T x8 x9 x10 x11 x12 x15 x17 (fun (x50 : Int32) (x51 : Int32) (h52 : zH) => zJ (fun (x53 : Int32) (x54 : Int32) (h55 : zH) => zJ (fun (x57 : Int32) (x58 : Int32) (x59 : Int32) => LL_words_100 T x8 x9 x10 K0 k x57 x59 x50 x58 (x15 + 1) h55) (fun J60 => if x17 ≤ x12 then (J60 (x11 + x17) (x54 &&& x53) x12) else (J60 (x11 + x17) (x54 &&& x53) x17))) (fun J56 => zJ (fun (x61 : Int32) (h62 : zH) => J56 0 x61 h62) (fun J63 => zcl (FL_call T x8 7 x9 x15 0 0 h52) fun x65 h66 => zcn 3 (FL_tryFind T x8 x9 1 x65.toInt64 h66) fun x69 h70 => if x69 < 0 then (J63 x51 h70) else (if x15 < x69 then (J63 x51 h70) else (zcl (FL_call T x8 7 x9 x69 0 0 h70) fun x72 h73 => zcl (FL_call T x8 7 x9 x15 0 0 h73) fun x76 h77 => if x72 = x76 then (J56 1 x51 h77) else (J63 x51 h77)))))) FUEL x13 (x19 &&& x18) 0 h20) (fun J21 => zJ (fun (x79 : Int32) (x80 : Int32) (h81 : zH) => J21 x79 0 x80 h81) (fun J82 => zcl (FL_call T x8 6 x9 x15 0 0 h16) fun x84 h85 => if x84 ≤ 0 then (J82 x84 x14 h85) else (zcl (FL_call T x8 7 x9 x15 x84 0 h85) fun x88 h89 => if x88 = (-9 : Int32) then (zcl (FL_call T x8 7 x9 x15 (-1 : Int32) 0 h89) fun x92 h93 => if x92 = (-9999002 : Int32) then (J21 x84 1 x14 h93) else (J82 x84 x14 h93)) else (J82 x84 x14 h89)))))
set_option maxHeartbeats 4000000 in
set_option maxRecDepth 100000 in
theorem LL_words_100_ok {X : zX} (CL : zCL X cL_words 11 RL "words" (some .boolean) 11 241) {Z : State → Prop} {hi : Nat} {ρ : Type} {rv : ρ} {rh : zH} {x8 : Nat} {x9 : Int32} {x10 : Int32} {K0 : Int32 → Int32 → Int32 → Int32 → zH → Option (ρ × zH × Nat)} (hK0 : ∀ (y3 : Int32) (y4 : Int32) (y5 : Int32) (y6 : Int32) (g9 : zH) (n9 : Nat), K0 y3 y4 y5 y6 g9 = some (rv, rh, n9) → zW X 11 Z n9 (6 * n9) false hi g9 330 [(0, .ref x8), (1, .int x9), (2, .int x10), (3, .int y3), (4, .int y4), (5, .int y5), (6, .int y6)] []) : ∀ (k : Nat) (x11 : Int32) (x12 : Int32) (x13 : Int32) (x14 : Int32) (x15 : Int32) (h16 : zH) (n9 : Nat), LL_words_100 (xT X) x8 x9 x10 K0 k x11 x12 x13 x14 x15 h16 = some (rv, rh, n9) → zW X 11 Z n9 (6 * n9) false hi h16 100 [(0, .ref x8), (1, .int x9), (2, .int x10), (3, .int x11), (4, .int x12), (5, .int x13), (6, .int x14), (7, .int x15)] [] := by
  have C := CL.1
  intro k
  induction k with
  | zero =>
    intro x11 x12 x13 x14 x15 h16 n9 hf
    have hf : none = some (rv, rh, n9) := hf
    cases hf
  | succ k ih =>
    intro x11 x12 x13 x14 x15 h16 n9 hf
    rw [LL_words_100.eq_2] at hf
    refine z_iload C dL_words_100 7 rfl ?_
    refine z_iload_n C dL_words_102 2 rfl rfl ?_
    refine z_icmp_ge (tgt := 330) C dL_words_103 (by decide) hf (fun hf => ?_) (fun hf => ?_)
    · refine z_sub [0, 1, 2, 3, 4, 5, 6] rfl ?_
      exact hK0 _ _ _ _ _ _ hf
    · refine z_join (P := fun J => ∀ (x17 : Int32) (x18 : Int32) (x19 : Int32) (h20 : zH) (n9 : Nat), J x17 x18 x19 h20 = some (rv, rh, n9) → zW X 11 Z n9 (6 * n9) false hi h20 164 [(0, .ref x8), (1, .int x9), (2, .int x10), (3, .int x11), (4, .int x12), (5, .int x13), (7, .int x15), (8, .int x17)] [.int x18, .int x19]) hf ?_ ?_
      · intro x17 x18 x19 h20 n9 hf
        refine z_iand C dL_words_164 ?_
        refine z_istore C dL_words_165 (by decide) (lv' := [(6, .int (x19 &&& x18)), (0, .ref x8), (1, .int x9), (2, .int x10), (3, .int x11), (4, .int x12), (5, .int x13), (7, .int x15), (8, .int x17)]) rfl ?_
        refine z_iconst C (v := 0) dL_words_167 (by decide) ?_
        refine z_istore C dL_words_168 (by decide) (lv' := [(9, .int 0), (6, .int (x19 &&& x18)), (0, .ref x8), (1, .int x9), (2, .int x10), (3, .int x11), (4, .int x12), (5, .int x13), (7, .int x15), (8, .int x17)]) rfl ?_
        refine z_sub [2, 3, 4, 5, 6, 7, 1, 8, 9, 0] rfl ?_
        refine LL_words_170_ok CL ?_ FUEL _ _ _ _ _ hf
        · intro x50 x51 h52 n9 hf
          refine z_join (P := fun J => ∀ (x53 : Int32) (x54 : Int32) (h55 : zH) (n9 : Nat), J x53 x54 h55 = some (rv, rh, n9) → zW X 11 Z n9 (6 * n9) false hi h55 300 [(0, .ref x8), (1, .int x9), (2, .int x10), (3, .int x11), (4, .int x12), (5, .int x50), (7, .int x15), (8, .int x17)] [.int x53, .int x54]) hf ?_ ?_
          · intro x53 x54 h55 n9 hf
            refine z_join (P := fun J => ∀ (x57 : Int32) (x58 : Int32) (x59 : Int32) (n9 : Nat), J x57 x58 x59 = some (rv, rh, n9) → zW X 11 Z n9 (6 * n9) false hi h55 322 [(0, .ref x8), (1, .int x9), (2, .int x10), (3, .int x57), (5, .int x50), (6, .int x58), (7, .int x15)] [.int x59]) hf ?_ ?_
            · intro x57 x58 x59 n9 hf
              refine z_istore C dL_words_322 (by decide) (lv' := [(4, .int x59), (0, .ref x8), (1, .int x9), (2, .int x10), (3, .int x57), (5, .int x50), (6, .int x58), (7, .int x15)]) rfl ?_
              refine z_iinc C dL_words_324 (k := 7) (d := 1) rfl (by decide) (by decide) (lv' := [(7, .int (x15 + 1)), (4, .int x59), (0, .ref x8), (1, .int x9), (2, .int x10), (3, .int x57), (5, .int x50), (6, .int x58)]) rfl ?_
              refine z_goto (tgt := 100) C dL_words_327 (by decide) ?_
              refine z_sub [2, 3, 4, 5, 1, 6, 7, 0] rfl ?_
              exact ih _ _ _ _ _ _ _ hf
            · intro J60 kJ60 hf
              refine z_iand C dL_words_300 ?_
              refine z_istore C dL_words_301 (by decide) (lv' := [(6, .int (x54 &&& x53)), (0, .ref x8), (1, .int x9), (2, .int x10), (3, .int x11), (4, .int x12), (5, .int x50), (7, .int x15), (8, .int x17)]) rfl ?_
              refine z_iload_n C dL_words_303 4 rfl rfl ?_
              refine z_iload C dL_words_304 8 rfl ?_
              refine z_iadd C dL_words_306 ?_
              refine z_istore_n C dL_words_307 rfl (by decide) (lv' := [(3, .int (x11 + x17)), (6, .int (x54 &&& x53)), (0, .ref x8), (1, .int x9), (2, .int x10), (4, .int x12), (5, .int x50), (7, .int x15), (8, .int x17)]) rfl ?_
              refine z_iload C dL_words_308 8 rfl ?_
              refine z_iload C dL_words_310 5 rfl ?_
              refine z_icmp_le (tgt := 320) C dL_words_312 (by decide) hf (fun hf => ?_) (fun hf => ?_)
              · refine z_iload C dL_words_320 5 rfl ?_
                refine z_sub [2, 3, 4, 0, 6, 1, 7] rfl ?_
                exact kJ60 _ _ _ _ hf
              · refine z_iload C dL_words_315 8 rfl ?_
                refine z_goto (tgt := 322) C dL_words_317 (by decide) ?_
                refine z_sub [2, 3, 4, 0, 6, 1, 7] rfl ?_
                exact kJ60 _ _ _ _ hf
          · intro J56 kJ56 hf
            refine z_join (P := fun J => ∀ (x61 : Int32) (h62 : zH) (n9 : Nat), J x61 h62 = some (rv, rh, n9) → zW X 11 Z n9 (6 * n9) false hi h62 299 [(0, .ref x8), (1, .int x9), (2, .int x10), (3, .int x11), (4, .int x12), (5, .int x50), (7, .int x15), (8, .int x17)] [.int x61]) hf ?_ ?_
            · intro x61 h62 n9 hf
              refine z_iconst C (v := 0) dL_words_299 (by decide) ?_
              exact kJ56 _ _ _ _ hf
            · intro J63 kJ63 hf
              refine z_aload_n C dL_words_236 0 rfl rfl ?_
              refine z_iload_n C dL_words_237 1 rfl rfl ?_
              refine z_iconst C (v := 1) dL_words_238 (by decide) ?_
              refine z_aload_n C dL_words_239 0 rfl rfl ?_
              refine z_bipush C (v := 7) dL_words_240 (by decide) ?_
              refine z_iload_n C dL_words_242 1 rfl rfl ?_
              refine z_iload C dL_words_243 7 rfl ?_
              refine z_iconst C (v := 0) dL_words_245 (by decide) ?_
              refine z_iconst C (v := 0) dL_words_246 (by decide) ?_
              obtain ⟨x65, h66, m67, n9, g64, hf, e9⟩ := zclE hf
              refine z_callL (kc' := n9) (ks' := 6 * n9) CL (ML_call (xl X) CL.2.2.2 (xD X) (xT X) (xlo X) hi g64) cw_L_174 ys_L_call dL_words_247 rfl ⟨Nat.le_of_ble_eq_true rfl, Nat.le_of_ble_eq_true rfl⟩ ⟨by show m67 + _ = _; omega, by show 6 * m67 + _ = _; omega⟩ (Nat.le_of_ble_eq_true rfl) (st := [.int 1, .int x9, .ref x8]) rfl ?_
              refine z_i2l C dL_words_250 ?_
              obtain ⟨x69, h70, n9, g68, hf, e9⟩ := zcnE hf
              refine z_callLW (kc' := n9) (ks' := 6 * n9) CL (ML_tryFind (xl X) CL.2.2.2 (xD X) (xT X) (xlo X) hi g68) cw_L_182 ys_L_tryFind dL_words_251 rfl (by decide) ⟨by show 3 + _ = _; omega, by show 18 + _ = _; omega⟩ (Nat.le_of_ble_eq_true rfl) (st := []) rfl ?_
              refine z_istore C dL_words_254 (by decide) (lv' := [(9, .int x69), (0, .ref x8), (1, .int x9), (2, .int x10), (3, .int x11), (4, .int x12), (5, .int x50), (6, .int x51), (7, .int x15), (8, .int x17)]) rfl ?_
              refine z_iload C dL_words_256 7 rfl ?_
              refine z_iload C dL_words_258 0 rfl ?_
              refine z_if_lt (tgt := 299) C dL_words_260 (by decide) hf (fun hf => ?_) (fun hf => ?_)
              · refine z_sub [1, 2, 3, 4, 5, 6, 8, 9] rfl ?_
                exact kJ63 _ _ _ hf
              · refine z_iload C dL_words_263 0 rfl ?_
                refine z_iload C dL_words_265 8 rfl ?_
                refine z_icmp_gt (tgt := 299) C dL_words_267 (by decide) hf (fun hf => ?_) (fun hf => ?_)
                · refine z_sub [1, 2, 3, 4, 5, 6, 8, 9] rfl ?_
                  exact kJ63 _ _ _ hf
                · refine z_aload_n C dL_words_270 1 rfl rfl ?_
                  refine z_bipush C (v := 7) dL_words_271 (by decide) ?_
                  refine z_iload_n C dL_words_273 2 rfl rfl ?_
                  refine z_iload C dL_words_274 0 rfl ?_
                  refine z_iconst C (v := 0) dL_words_276 (by decide) ?_
                  refine z_iconst C (v := 0) dL_words_277 (by decide) ?_
                  obtain ⟨x72, h73, m74, n9, g71, hf, e9⟩ := zclE hf
                  refine z_callL (kc' := n9) (ks' := 6 * n9) CL (ML_call (xl X) CL.2.2.2 (xD X) (xT X) (xlo X) hi g71) cw_L_174 ys_L_call dL_words_278 rfl ⟨Nat.le_of_ble_eq_true rfl, Nat.le_of_ble_eq_true rfl⟩ ⟨by show m74 + _ = _; omega, by show 6 * m74 + _ = _; omega⟩ (Nat.le_of_ble_eq_true rfl) (st := [.int x51]) rfl ?_
                  refine z_aload_n C dL_words_281 1 rfl rfl ?_
                  refine z_bipush C (v := 7) dL_words_282 (by decide) ?_
                  refine z_iload_n C dL_words_284 2 rfl rfl ?_
                  refine z_iload C dL_words_285 8 rfl ?_
                  refine z_iconst C (v := 0) dL_words_287 (by decide) ?_
                  refine z_iconst C (v := 0) dL_words_288 (by decide) ?_
                  obtain ⟨x76, h77, m78, n9, g75, hf, e9⟩ := zclE hf
                  refine z_callL (kc' := n9) (ks' := 6 * n9) CL (ML_call (xl X) CL.2.2.2 (xD X) (xT X) (xlo X) hi g75) cw_L_174 ys_L_call dL_words_289 rfl ⟨Nat.le_of_ble_eq_true rfl, Nat.le_of_ble_eq_true rfl⟩ ⟨by show m78 + _ = _; omega, by show 6 * m78 + _ = _; omega⟩ (Nat.le_of_ble_eq_true rfl) (st := [.int x72, .int x51]) rfl ?_
                  refine z_icmp_ne (tgt := 299) C dL_words_292 (by decide) hf (fun hf => ?_) (fun hf => ?_)
                  · refine z_sub [1, 2, 3, 4, 5, 6, 8, 9] rfl ?_
                    exact kJ63 _ _ _ hf
                  · refine z_iconst C (v := 1) dL_words_295 (by decide) ?_
                    refine z_goto (tgt := 300) C dL_words_296 (by decide) ?_
                    refine z_sub [1, 2, 3, 4, 5, 6, 8, 9] rfl ?_
                    exact kJ56 _ _ _ _ hf
      · intro J21 kJ21 hf
        refine z_join (P := fun J => ∀ (x79 : Int32) (x80 : Int32) (h81 : zH) (n9 : Nat), J x79 x80 h81 = some (rv, rh, n9) → zW X 11 Z n9 (6 * n9) false hi h81 163 [(0, .ref x8), (1, .int x9), (2, .int x10), (3, .int x11), (4, .int x12), (5, .int x13), (7, .int x15), (8, .int x79)] [.int x80]) hf ?_ ?_
        · intro x79 x80 h81 n9 hf
          refine z_iconst C (v := 0) dL_words_163 (by decide) ?_
          exact kJ21 _ _ _ _ _ hf
        · intro J82 kJ82 hf
          refine z_aload_n C dL_words_106 0 rfl rfl ?_
          refine z_bipush C (v := 6) dL_words_107 (by decide) ?_
          refine z_iload_n C dL_words_109 1 rfl rfl ?_
          refine z_iload C dL_words_110 7 rfl ?_
          refine z_iconst C (v := 0) dL_words_112 (by decide) ?_
          refine z_iconst C (v := 0) dL_words_113 (by decide) ?_
          obtain ⟨x84, h85, m86, n9, g83, hf, e9⟩ := zclE hf
          refine z_callL (kc' := n9) (ks' := 6 * n9) CL (ML_call (xl X) CL.2.2.2 (xD X) (xT X) (xlo X) hi g83) cw_L_174 ys_L_call dL_words_114 rfl ⟨Nat.le_of_ble_eq_true rfl, Nat.le_of_ble_eq_true rfl⟩ ⟨by show m86 + _ = _; omega, by show 6 * m86 + _ = _; omega⟩ (Nat.le_of_ble_eq_true rfl) (st := []) rfl ?_
          refine z_istore C dL_words_117 (by decide) (lv' := [(8, .int x84), (0, .ref x8), (1, .int x9), (2, .int x10), (3, .int x11), (4, .int x12), (5, .int x13), (6, .int x14), (7, .int x15)]) rfl ?_
          refine z_iload C dL_words_119 7 rfl ?_
          refine z_iload C dL_words_121 0 rfl ?_
          refine z_if_le (tgt := 163) C dL_words_123 (by decide) hf (fun hf => ?_) (fun hf => ?_)
          · refine z_sub [1, 2, 3, 4, 5, 6, 8, 0] rfl ?_
            exact kJ82 _ _ _ _ hf
          · refine z_aload_n C dL_words_126 1 rfl rfl ?_
            refine z_bipush C (v := 7) dL_words_127 (by decide) ?_
            refine z_iload_n C dL_words_129 2 rfl rfl ?_
            refine z_iload C dL_words_130 8 rfl ?_
            refine z_iload C dL_words_132 0 rfl ?_
            refine z_iconst C (v := 0) dL_words_134 (by decide) ?_
            obtain ⟨x88, h89, m90, n9, g87, hf, e9⟩ := zclE hf
            refine z_callL (kc' := n9) (ks' := 6 * n9) CL (ML_call (xl X) CL.2.2.2 (xD X) (xT X) (xlo X) hi g87) cw_L_174 ys_L_call dL_words_135 rfl ⟨Nat.le_of_ble_eq_true rfl, Nat.le_of_ble_eq_true rfl⟩ ⟨by show m90 + _ = _; omega, by show 6 * m90 + _ = _; omega⟩ (Nat.le_of_ble_eq_true rfl) (st := [.int x14]) rfl ?_
            refine z_bipush C (v := (-9 : Int32)) dL_words_138 (by decide) ?_
            refine z_icmp_ne (tgt := 163) C dL_words_140 (by decide) hf (fun hf => ?_) (fun hf => ?_)
            · refine z_sub [1, 2, 3, 4, 5, 6, 8, 0] rfl ?_
              exact kJ82 _ _ _ _ hf
            · refine z_aload_n C dL_words_143 1 rfl rfl ?_
              refine z_bipush C (v := 7) dL_words_144 (by decide) ?_
              refine z_iload_n C dL_words_146 2 rfl rfl ?_
              refine z_iload C dL_words_147 8 rfl ?_
              refine z_iconst C (v := (-1 : Int32)) dL_words_149 (by decide) ?_
              refine z_iconst C (v := 0) dL_words_150 (by decide) ?_
              obtain ⟨x92, h93, m94, n9, g91, hf, e9⟩ := zclE hf
              refine z_callL (kc' := n9) (ks' := 6 * n9) CL (ML_call (xl X) CL.2.2.2 (xD X) (xT X) (xlo X) hi g91) cw_L_174 ys_L_call dL_words_151 rfl ⟨Nat.le_of_ble_eq_true rfl, Nat.le_of_ble_eq_true rfl⟩ ⟨by show m94 + _ = _; omega, by show 6 * m94 + _ = _; omega⟩ (Nat.le_of_ble_eq_true rfl) (st := [.int x14]) rfl ?_
              refine z_ldc C (v := (-9999002 : Int32)) mw_467 dL_words_154 ?_
              refine z_icmp_ne (tgt := 163) C dL_words_156 (by decide) hf (fun hf => ?_) (fun hf => ?_)
              · refine z_sub [1, 2, 3, 4, 5, 6, 8, 0] rfl ?_
                exact kJ82 _ _ _ _ hf
              · refine z_iconst C (v := 1) dL_words_159 (by decide) ?_
                refine z_goto (tgt := 164) C dL_words_160 (by decide) ?_
                refine z_sub [1, 2, 3, 4, 5, 6, 8, 0] rfl ?_
                exact kJ21 _ _ _ _ _ hf
def LL_words_336 {ρ : Type} (T : zT) (x100 : Nat) (x101 : Int32) (x102 : Int32) (x103 : Int32) (x104 : Int32) (x105 : Int32) (x106 : Int32) (K0 : Int32 → zH → Option (ρ × zH × Nat)) : Nat → Int32 → Int32 → zH → Option (ρ × zH × Nat)
  | 0, _, _, _ => none
  | k + 1, x107, x108, h109 => if 27 ≤ x108 then (K0 x107 h109) else (zcl (FL_call T x100 15 x101 x108 0 0 h109) fun x111 h112 => LL_words_336 T x100 x101 x102 x103 x104 x105 x106 K0 k (x107 + x111) (x108 + 1) h112)
set_option maxHeartbeats 4000000 in
set_option maxRecDepth 100000 in
theorem LL_words_336_ok {X : zX} (CL : zCL X cL_words 11 RL "words" (some .boolean) 11 241) {Z : State → Prop} {hi : Nat} {ρ : Type} {rv : ρ} {rh : zH} {x100 : Nat} {x101 : Int32} {x102 : Int32} {x103 : Int32} {x104 : Int32} {x105 : Int32} {x106 : Int32} {K0 : Int32 → zH → Option (ρ × zH × Nat)} (hK0 : ∀ (y7 : Int32) (g9 : zH) (n9 : Nat), K0 y7 g9 = some (rv, rh, n9) → zW X 11 Z n9 (6 * n9) false hi g9 365 [(0, .ref x100), (1, .int x101), (2, .int x102), (3, .int x103), (4, .int x104), (5, .int x105), (6, .int x106), (7, .int y7)] []) : ∀ (k : Nat) (x107 : Int32) (x108 : Int32) (h109 : zH) (n9 : Nat), LL_words_336 (xT X) x100 x101 x102 x103 x104 x105 x106 K0 k x107 x108 h109 = some (rv, rh, n9) → zW X 11 Z n9 (6 * n9) false hi h109 336 [(0, .ref x100), (1, .int x101), (2, .int x102), (3, .int x103), (4, .int x104), (5, .int x105), (6, .int x106), (7, .int x107), (8, .int x108)] [] := by
  have C := CL.1
  intro k
  induction k with
  | zero =>
    intro x107 x108 h109 n9 hf
    have hf : none = some (rv, rh, n9) := hf
    cases hf
  | succ k ih =>
    intro x107 x108 h109 n9 hf
    rw [LL_words_336.eq_2] at hf
    refine z_iload C dL_words_336 8 rfl ?_
    refine z_bipush C (v := 27) dL_words_338 (by decide) ?_
    refine z_icmp_ge (tgt := 365) C dL_words_340 (by decide) hf (fun hf => ?_) (fun hf => ?_)
    · refine z_sub [0, 1, 2, 3, 4, 5, 6, 7] rfl ?_
      exact hK0 _ _ _ hf
    · refine z_iload C dL_words_343 7 rfl ?_
      refine z_aload_n C dL_words_345 0 rfl rfl ?_
      refine z_bipush C (v := 15) dL_words_346 (by decide) ?_
      refine z_iload_n C dL_words_348 1 rfl rfl ?_
      refine z_iload C dL_words_349 8 rfl ?_
      refine z_iconst C (v := 0) dL_words_351 (by decide) ?_
      refine z_iconst C (v := 0) dL_words_352 (by decide) ?_
      obtain ⟨x111, h112, m113, n9, g110, hf, e9⟩ := zclE hf
      refine z_callL (kc' := n9) (ks' := 6 * n9) CL (ML_call (xl X) CL.2.2.2 (xD X) (xT X) (xlo X) hi g110) cw_L_174 ys_L_call dL_words_353 rfl ⟨Nat.le_of_ble_eq_true rfl, Nat.le_of_ble_eq_true rfl⟩ ⟨by show m113 + _ = _; omega, by show 6 * m113 + _ = _; omega⟩ (Nat.le_of_ble_eq_true rfl) (st := [.int x107]) rfl ?_
      refine z_iadd C dL_words_356 ?_
      refine z_istore C dL_words_357 (by decide) (lv' := [(7, .int (x107 + x111)), (0, .ref x100), (1, .int x101), (2, .int x102), (3, .int x103), (4, .int x104), (5, .int x105), (6, .int x106), (8, .int x108)]) rfl ?_
      refine z_iinc C dL_words_359 (k := 8) (d := 1) rfl (by decide) (by decide) (lv' := [(8, .int (x108 + 1)), (7, .int (x107 + x111)), (0, .ref x100), (1, .int x101), (2, .int x102), (3, .int x103), (4, .int x104), (5, .int x105), (6, .int x106)]) rfl ?_
      refine z_goto (tgt := 336) C dL_words_362 (by decide) ?_
      refine z_sub [2, 3, 4, 5, 6, 7, 8, 1, 0] rfl ?_
      exact ih _ _ _ _ hf
def FL_words (T : zT) (p0 : Nat) (p1 : Int32) (h : zH) : Option (Int32 × zH × Nat) := zJ (fun (x1 : Int32) (x2 : Int32) (x3 : Int32) (x4 : Int32) (x5 : Int32) (h6 : zH) => LL_words_100 T p0 p1 x1 (fun (x95 : Int32) (x96 : Int32) (x97 : Int32) (x98 : Int32) (h99 : zH) => LL_words_336 T p0 p1 x1 x95 x96 x97 x98 (fun (x114 : Int32) (h115 : zH) => zJ (fun (x116 : Int32) (h117 : zH) => zJ (fun (x119 : Int32) (h120 : zH) => if x119 = 0 ∨ x119 = 1 then some (x119, h120, 0) else none) (fun J121 => zJ (fun (h122 : zH) => J121 0 h122) (fun J123 => zcl (FL_about T p0 (8 + p1) h117) fun x125 h126 => if x98 = 0 then (J123 h126) else (if x114 = x95 then (zcl (FL_call T p0 15 p1 26 0 0 h126) fun x129 h130 => if x129 = x97 then (zcl (FL_call T p0 3 p1 4 0 0 h130) fun x133 h134 => if x96 = x133 then (if x125 < x95 then (J123 h134) else (if x116 ≤ (x125 - x95) then (J123 h134) else (zJ (fun (x136 : Int32) => zJ (fun (x138 : Int32) (x139 : Int32) => if x139 = x138 then (J121 1 h134) else (J123 h134)) (fun J140 => if x125 ≤ 0 then (J140 0 x136) else (J140 1 x136))) (fun J137 => if x1 ≤ 0 then (J137 0) else (J137 1))))) else (J123 h134)) else (J123 h130)) else (J123 h126))))) (fun J118 => zcl (FL_call T p0 3 p1 2 0 0 h115) fun x142 h143 => if x142 = 0 then (zcl (FL_about T p0 1 h143) fun x150 h151 => J118 x150 h151) else (zcl (FL_about T p0 0 h143) fun x146 h147 => J118 x146 h147))) FUEL 0 0 h99) FUEL x2 x3 x4 x5 0 h6) (fun J7 => zJ (fun (x153 : Int32) (x154 : Int32) (x155 : Int32) (x156 : Int32) (h157 : zH) => J7 x153 x154 x155 x156 0 h157) (fun J158 => zcl (FL_call T p0 3 p1 3 0 0 h) fun x160 h161 => zcl (FL_call T p0 6 p1 x160 0 0 h161) fun x164 h165 => if x164 = (-9999001 : Int32) then (zcl (FL_call T p0 6 p1 (-1 : Int32) 0 0 h165) fun x168 h169 => if x168 = (-9999001 : Int32) then (zcl (FL_about T p0 6 h169) fun x172 h173 => zcl (FL_call T p0 18 p1 x172 0 0 h173) fun x176 h177 => if x176 = x160 then (zcl (FL_call T p0 18 p1 1 0 0 h177) fun x180 h181 => zcl (FL_call T p0 18 p1 3 0 0 h181) fun x184 h185 => if x180 < x184 then (J158 x160 0 0 0 h185) else (J7 x160 0 0 0 1 h185)) else (J158 x160 0 0 0 h177)) else (J158 x160 0 0 0 h169)) else (J158 x160 0 0 0 h165)))
set_option maxHeartbeats 4000000 in
set_option maxRecDepth 100000 in
theorem BL_words {X : zX} (CL : zCL X cL_words 11 RL "words" (some .boolean) 11 241) {hi : Nat} {h : zH} {p0 : Nat} {p1 : Int32} {rv : Int32} {rh : zH} {n9 : Nat} (hf : FL_words (xT X) p0 p1 h = some (rv, rh, n9)) : zW X 11 (zZ X false (some (.int rv), hi, rh)) n9 (6 * n9) false hi h 0 [(0, .ref p0), (1, .int p1)] [] := by
  have C := CL.1
  unfold FL_words at hf
  refine z_join (P := fun J => ∀ (x1 : Int32) (x2 : Int32) (x3 : Int32) (x4 : Int32) (x5 : Int32) (h6 : zH) (n9 : Nat), J x1 x2 x3 x4 x5 h6 = some (rv, rh, n9) → zW X 11 (zZ X false (some (.int rv), hi, rh)) n9 (6 * n9) false hi h6 95 [(0, .ref p0), (1, .int p1), (2, .int x1), (3, .int x2), (4, .int x3), (5, .int x4)] [.int x5]) hf ?_ ?_
  · intro x1 x2 x3 x4 x5 h6 n9 hf
    refine z_istore C dL_words_95 (by decide) (lv' := [(6, .int x5), (0, .ref p0), (1, .int p1), (2, .int x1), (3, .int x2), (4, .int x3), (5, .int x4)]) rfl ?_
    refine z_iconst C (v := 0) dL_words_97 (by decide) ?_
    refine z_istore C dL_words_98 (by decide) (lv' := [(7, .int 0), (6, .int x5), (0, .ref p0), (1, .int p1), (2, .int x1), (3, .int x2), (4, .int x3), (5, .int x4)]) rfl ?_
    refine z_sub [2, 3, 4, 5, 6, 7, 1, 0] rfl ?_
    refine LL_words_100_ok CL ?_ FUEL _ _ _ _ _ _ _ hf
    · intro x95 x96 x97 x98 h99 n9 hf
      refine z_iconst C (v := 0) dL_words_330 (by decide) ?_
      refine z_istore C dL_words_331 (by decide) (lv' := [(7, .int 0), (0, .ref p0), (1, .int p1), (2, .int x1), (3, .int x95), (4, .int x96), (5, .int x97), (6, .int x98)]) rfl ?_
      refine z_iconst C (v := 0) dL_words_333 (by decide) ?_
      refine z_istore C dL_words_334 (by decide) (lv' := [(8, .int 0), (7, .int 0), (0, .ref p0), (1, .int p1), (2, .int x1), (3, .int x95), (4, .int x96), (5, .int x97), (6, .int x98)]) rfl ?_
      refine z_sub [2, 3, 4, 5, 6, 7, 8, 1, 0] rfl ?_
      refine LL_words_336_ok CL ?_ FUEL _ _ _ _ hf
      · intro x114 h115 n9 hf
        refine z_join (P := fun J => ∀ (x116 : Int32) (h117 : zH) (n9 : Nat), J x116 h117 = some (rv, rh, n9) → zW X 11 (zZ X false (some (.int rv), hi, rh)) n9 (6 * n9) false hi h117 390 [(0, .ref p0), (1, .int p1), (2, .int x1), (3, .int x95), (4, .int x96), (5, .int x97), (6, .int x98), (7, .int x114)] [.int x116]) hf ?_ ?_
        · intro x116 h117 n9 hf
          refine z_join (P := fun J => ∀ (x119 : Int32) (h120 : zH) (n9 : Nat), J x119 h120 = some (rv, rh, n9) → zW X 11 (zZ X false (some (.int rv), hi, rh)) n9 (6 * n9) false hi h120 485 [] [.int x119]) hf ?_ ?_
          · intro x119 h120 n9 hf
            refine z_ite hf (fun c hf => ?_) (fun c hf => nomatch hf)
            exact z_zreturn C dL_words_485 c (by cases hf; rfl)
          · intro J121 kJ121 hf
            refine z_join (P := fun J => ∀ (h122 : zH) (n9 : Nat), J h122 = some (rv, rh, n9) → zW X 11 (zZ X false (some (.int rv), hi, rh)) n9 (6 * n9) false hi h122 484 [] []) hf ?_ ?_
            · intro h122 n9 hf
              refine z_iconst C (v := 0) dL_words_484 (by decide) ?_
              exact kJ121 _ _ _ hf
            · intro J123 kJ123 hf
              refine z_istore C dL_words_390 (by decide) (lv' := [(8, .int x116), (0, .ref p0), (1, .int p1), (2, .int x1), (3, .int x95), (4, .int x96), (5, .int x97), (6, .int x98), (7, .int x114)]) rfl ?_
              refine z_aload_n C dL_words_392 1 rfl rfl ?_
              refine z_bipush C (v := 8) dL_words_393 (by decide) ?_
              refine z_iload_n C dL_words_395 2 rfl rfl ?_
              refine z_iadd C dL_words_396 ?_
              obtain ⟨x125, h126, m127, n9, g124, hf, e9⟩ := zclE hf
              refine z_callL (kc' := n9) (ks' := 6 * n9) CL (ML_about (xl X) CL.2.2.2 (xD X) (xT X) (xlo X) hi g124) cw_L_180 ys_L_about dL_words_397 rfl ⟨Nat.le_of_ble_eq_true rfl, Nat.le_of_ble_eq_true rfl⟩ ⟨by show m127 + _ = _; omega, by show 6 * m127 + _ = _; omega⟩ (Nat.le_of_ble_eq_true rfl) (st := []) rfl ?_
              refine z_istore C dL_words_400 (by decide) (lv' := [(9, .int x125), (8, .int x116), (0, .ref p0), (1, .int p1), (2, .int x1), (3, .int x95), (4, .int x96), (5, .int x97), (6, .int x98), (7, .int x114)]) rfl ?_
              refine z_iload C dL_words_402 8 rfl ?_
              refine z_if_eq (tgt := 484) C dL_words_404 (by decide) hf (fun hf => ?_) (fun hf => ?_)
              · refine z_sub [] rfl ?_
                exact kJ123 _ _ hf
              · refine z_iload C dL_words_407 9 rfl ?_
                refine z_iload_n C dL_words_409 5 rfl rfl ?_
                refine z_icmp_ne (tgt := 484) C dL_words_410 (by decide) hf (fun hf => ?_) (fun hf => ?_)
                · refine z_sub [] rfl ?_
                  exact kJ123 _ _ hf
                · refine z_aload_n C dL_words_413 2 rfl rfl ?_
                  refine z_bipush C (v := 15) dL_words_414 (by decide) ?_
                  refine z_iload_n C dL_words_416 3 rfl rfl ?_
                  refine z_bipush C (v := 26) dL_words_417 (by decide) ?_
                  refine z_iconst C (v := 0) dL_words_419 (by decide) ?_
                  refine z_iconst C (v := 0) dL_words_420 (by decide) ?_
                  obtain ⟨x129, h130, m131, n9, g128, hf, e9⟩ := zclE hf
                  refine z_callL (kc' := n9) (ks' := 6 * n9) CL (ML_call (xl X) CL.2.2.2 (xD X) (xT X) (xlo X) hi g128) cw_L_174 ys_L_call dL_words_421 rfl ⟨Nat.le_of_ble_eq_true rfl, Nat.le_of_ble_eq_true rfl⟩ ⟨by show m131 + _ = _; omega, by show 6 * m131 + _ = _; omega⟩ (Nat.le_of_ble_eq_true rfl) (st := []) rfl ?_
                  refine z_iload C dL_words_424 7 rfl ?_
                  refine z_icmp_ne (tgt := 484) C dL_words_426 (by decide) hf (fun hf => ?_) (fun hf => ?_)
                  · refine z_sub [] rfl ?_
                    exact kJ123 _ _ hf
                  · refine z_iload C dL_words_429 6 rfl ?_
                    refine z_aload_n C dL_words_431 2 rfl rfl ?_
                    refine z_iconst C (v := 3) dL_words_432 (by decide) ?_
                    refine z_iload_n C dL_words_433 3 rfl rfl ?_
                    refine z_iconst C (v := 4) dL_words_434 (by decide) ?_
                    refine z_iconst C (v := 0) dL_words_435 (by decide) ?_
                    refine z_iconst C (v := 0) dL_words_436 (by decide) ?_
                    obtain ⟨x133, h134, m135, n9, g132, hf, e9⟩ := zclE hf
                    refine z_callL (kc' := n9) (ks' := 6 * n9) CL (ML_call (xl X) CL.2.2.2 (xD X) (xT X) (xlo X) hi g132) cw_L_174 ys_L_call dL_words_437 rfl ⟨Nat.le_of_ble_eq_true rfl, Nat.le_of_ble_eq_true rfl⟩ ⟨by show m135 + _ = _; omega, by show 6 * m135 + _ = _; omega⟩ (Nat.le_of_ble_eq_true rfl) (st := [.int x96]) rfl ?_
                    refine z_icmp_ne (tgt := 484) C dL_words_440 (by decide) hf (fun hf => ?_) (fun hf => ?_)
                    · refine z_sub [] rfl ?_
                      exact kJ123 _ _ hf
                    · refine z_iload_n C dL_words_443 5 rfl rfl ?_
                      refine z_iload C dL_words_444 0 rfl ?_
                      refine z_icmp_gt (tgt := 484) C dL_words_446 (by decide) hf (fun hf => ?_) (fun hf => ?_)
                      · refine z_sub [] rfl ?_
                        exact kJ123 _ _ hf
                      · refine z_iload C dL_words_449 0 rfl ?_
                        refine z_iload_n C dL_words_451 5 rfl rfl ?_
                        refine z_isub C dL_words_452 ?_
                        refine z_iload C dL_words_453 1 rfl ?_
                        refine z_icmp_ge (tgt := 484) C dL_words_455 (by decide) hf (fun hf => ?_) (fun hf => ?_)
                        · refine z_sub [] rfl ?_
                          exact kJ123 _ _ hf
                        · refine z_join (P := fun J => ∀ (x136 : Int32) (n9 : Nat), J x136 = some (rv, rh, n9) → zW X 11 (zZ X false (some (.int rv), hi, rh)) n9 (6 * n9) false hi h134 467 [(9, .int x125)] [.int x136]) hf ?_ ?_
                          · intro x136 n9 hf
                            refine z_join (P := fun J => ∀ (x138 : Int32) (x139 : Int32) (n9 : Nat), J x138 x139 = some (rv, rh, n9) → zW X 11 (zZ X false (some (.int rv), hi, rh)) n9 (6 * n9) false hi h134 477 [] [.int x138, .int x139]) hf ?_ ?_
                            · intro x138 x139 n9 hf
                              refine z_icmp_ne (tgt := 484) C dL_words_477 (by decide) hf (fun hf => ?_) (fun hf => ?_)
                              · exact kJ123 _ _ hf
                              · refine z_iconst C (v := 1) dL_words_480 (by decide) ?_
                                refine z_goto (tgt := 485) C dL_words_481 (by decide) ?_
                                exact kJ121 _ _ _ hf
                            · intro J140 kJ140 hf
                              refine z_iload C dL_words_467 0 rfl ?_
                              refine z_if_le (tgt := 476) C dL_words_469 (by decide) hf (fun hf => ?_) (fun hf => ?_)
                              · refine z_iconst C (v := 0) dL_words_476 (by decide) ?_
                                refine z_sub [] rfl ?_
                                exact kJ140 _ _ _ hf
                              · refine z_iconst C (v := 1) dL_words_472 (by decide) ?_
                                refine z_goto (tgt := 477) C dL_words_473 (by decide) ?_
                                refine z_sub [] rfl ?_
                                exact kJ140 _ _ _ hf
                          · intro J137 kJ137 hf
                            refine z_iload_n C dL_words_458 4 rfl rfl ?_
                            refine z_if_le (tgt := 466) C dL_words_459 (by decide) hf (fun hf => ?_) (fun hf => ?_)
                            · refine z_iconst C (v := 0) dL_words_466 (by decide) ?_
                              refine z_sub [0] rfl ?_
                              exact kJ137 _ _ hf
                            · refine z_iconst C (v := 1) dL_words_462 (by decide) ?_
                              refine z_goto (tgt := 467) C dL_words_463 (by decide) ?_
                              refine z_sub [0] rfl ?_
                              exact kJ137 _ _ hf
        · intro J118 kJ118 hf
          refine z_aload_n C dL_words_365 0 rfl rfl ?_
          refine z_iconst C (v := 3) dL_words_366 (by decide) ?_
          refine z_iload_n C dL_words_367 1 rfl rfl ?_
          refine z_iconst C (v := 2) dL_words_368 (by decide) ?_
          refine z_iconst C (v := 0) dL_words_369 (by decide) ?_
          refine z_iconst C (v := 0) dL_words_370 (by decide) ?_
          obtain ⟨x142, h143, m144, n9, g141, hf, e9⟩ := zclE hf
          refine z_callL (kc' := n9) (ks' := 6 * n9) CL (ML_call (xl X) CL.2.2.2 (xD X) (xT X) (xlo X) hi g141) cw_L_174 ys_L_call dL_words_371 rfl ⟨Nat.le_of_ble_eq_true rfl, Nat.le_of_ble_eq_true rfl⟩ ⟨by show m144 + _ = _; omega, by show 6 * m144 + _ = _; omega⟩ (Nat.le_of_ble_eq_true rfl) (st := []) rfl ?_
          refine z_if_ne (tgt := 385) C dL_words_374 (by decide) hf (fun hf => ?_) (fun hf => ?_)
          · refine z_aload_n C dL_words_385 0 rfl rfl ?_
            refine z_iconst C (v := 0) dL_words_386 (by decide) ?_
            obtain ⟨x146, h147, m148, n9, g145, hf, e9⟩ := zclE hf
            refine z_callL (kc' := n9) (ks' := 6 * n9) CL (ML_about (xl X) CL.2.2.2 (xD X) (xT X) (xlo X) hi g145) cw_L_180 ys_L_about dL_words_387 rfl ⟨Nat.le_of_ble_eq_true rfl, Nat.le_of_ble_eq_true rfl⟩ ⟨by show m148 + _ = _; omega, by show 6 * m148 + _ = _; omega⟩ (Nat.le_of_ble_eq_true rfl) (st := []) rfl ?_
            exact kJ118 _ _ _ hf
          · refine z_aload_n C dL_words_377 0 rfl rfl ?_
            refine z_iconst C (v := 1) dL_words_378 (by decide) ?_
            obtain ⟨x150, h151, m152, n9, g149, hf, e9⟩ := zclE hf
            refine z_callL (kc' := n9) (ks' := 6 * n9) CL (ML_about (xl X) CL.2.2.2 (xD X) (xT X) (xlo X) hi g149) cw_L_180 ys_L_about dL_words_379 rfl ⟨Nat.le_of_ble_eq_true rfl, Nat.le_of_ble_eq_true rfl⟩ ⟨by show m152 + _ = _; omega, by show 6 * m152 + _ = _; omega⟩ (Nat.le_of_ble_eq_true rfl) (st := []) rfl ?_
            refine z_goto (tgt := 390) C dL_words_382 (by decide) ?_
            exact kJ118 _ _ _ hf
  · intro J7 kJ7 hf
    refine z_join (P := fun J => ∀ (x153 : Int32) (x154 : Int32) (x155 : Int32) (x156 : Int32) (h157 : zH) (n9 : Nat), J x153 x154 x155 x156 h157 = some (rv, rh, n9) → zW X 11 (zZ X false (some (.int rv), hi, rh)) n9 (6 * n9) false hi h157 94 [(0, .ref p0), (1, .int p1), (2, .int x153), (3, .int x154), (4, .int x155), (5, .int x156)] []) hf ?_ ?_
    · intro x153 x154 x155 x156 h157 n9 hf
      refine z_iconst C (v := 0) dL_words_94 (by decide) ?_
      exact kJ7 _ _ _ _ _ _ _ hf
    · intro J158 kJ158 hf
      refine z_aload_n C dL_words_0 0 rfl rfl ?_
      refine z_iconst C (v := 3) dL_words_1 (by decide) ?_
      refine z_iload_n C dL_words_2 1 rfl rfl ?_
      refine z_iconst C (v := 3) dL_words_3 (by decide) ?_
      refine z_iconst C (v := 0) dL_words_4 (by decide) ?_
      refine z_iconst C (v := 0) dL_words_5 (by decide) ?_
      obtain ⟨x160, h161, m162, n9, g159, hf, e9⟩ := zclE hf
      refine z_callL (kc' := n9) (ks' := 6 * n9) CL (ML_call (xl X) CL.2.2.2 (xD X) (xT X) (xlo X) hi g159) cw_L_174 ys_L_call dL_words_6 rfl ⟨Nat.le_of_ble_eq_true rfl, Nat.le_of_ble_eq_true rfl⟩ ⟨by show m162 + _ = _; omega, by show 6 * m162 + _ = _; omega⟩ (Nat.le_of_ble_eq_true rfl) (st := []) rfl ?_
      refine z_istore_n C dL_words_9 rfl (by decide) (lv' := [(2, .int x160), (0, .ref p0), (1, .int p1)]) rfl ?_
      refine z_iconst C (v := 0) dL_words_10 (by decide) ?_
      refine z_istore_n C dL_words_11 rfl (by decide) (lv' := [(3, .int 0), (2, .int x160), (0, .ref p0), (1, .int p1)]) rfl ?_
      refine z_iconst C (v := 0) dL_words_12 (by decide) ?_
      refine z_istore C dL_words_13 (by decide) (lv' := [(4, .int 0), (3, .int 0), (2, .int x160), (0, .ref p0), (1, .int p1)]) rfl ?_
      refine z_iconst C (v := 0) dL_words_15 (by decide) ?_
      refine z_istore C dL_words_16 (by decide) (lv' := [(5, .int 0), (4, .int 0), (3, .int 0), (2, .int x160), (0, .ref p0), (1, .int p1)]) rfl ?_
      refine z_aload_n C dL_words_18 4 rfl rfl ?_
      refine z_bipush C (v := 6) dL_words_19 (by decide) ?_
      refine z_iload_n C dL_words_21 5 rfl rfl ?_
      refine z_iload_n C dL_words_22 3 rfl rfl ?_
      refine z_iconst C (v := 0) dL_words_23 (by decide) ?_
      refine z_iconst C (v := 0) dL_words_24 (by decide) ?_
      obtain ⟨x164, h165, m166, n9, g163, hf, e9⟩ := zclE hf
      refine z_callL (kc' := n9) (ks' := 6 * n9) CL (ML_call (xl X) CL.2.2.2 (xD X) (xT X) (xlo X) hi g163) cw_L_174 ys_L_call dL_words_25 rfl ⟨Nat.le_of_ble_eq_true rfl, Nat.le_of_ble_eq_true rfl⟩ ⟨by show m166 + _ = _; omega, by show 6 * m166 + _ = _; omega⟩ (Nat.le_of_ble_eq_true rfl) (st := []) rfl ?_
      refine z_ldc C (v := (-9999001 : Int32)) mw_644 dL_words_28 ?_
      refine z_icmp_ne (tgt := 94) C dL_words_30 (by decide) hf (fun hf => ?_) (fun hf => ?_)
      · refine z_sub [4, 5, 3, 2, 1, 0] rfl ?_
        exact kJ158 _ _ _ _ _ _ hf
      · refine z_aload_n C dL_words_33 4 rfl rfl ?_
        refine z_bipush C (v := 6) dL_words_34 (by decide) ?_
        refine z_iload_n C dL_words_36 5 rfl rfl ?_
        refine z_iconst C (v := (-1 : Int32)) dL_words_37 (by decide) ?_
        refine z_iconst C (v := 0) dL_words_38 (by decide) ?_
        refine z_iconst C (v := 0) dL_words_39 (by decide) ?_
        obtain ⟨x168, h169, m170, n9, g167, hf, e9⟩ := zclE hf
        refine z_callL (kc' := n9) (ks' := 6 * n9) CL (ML_call (xl X) CL.2.2.2 (xD X) (xT X) (xlo X) hi g167) cw_L_174 ys_L_call dL_words_40 rfl ⟨Nat.le_of_ble_eq_true rfl, Nat.le_of_ble_eq_true rfl⟩ ⟨by show m170 + _ = _; omega, by show 6 * m170 + _ = _; omega⟩ (Nat.le_of_ble_eq_true rfl) (st := []) rfl ?_
        refine z_ldc C (v := (-9999001 : Int32)) mw_644 dL_words_43 ?_
        refine z_icmp_ne (tgt := 94) C dL_words_45 (by decide) hf (fun hf => ?_) (fun hf => ?_)
        · refine z_sub [4, 5, 3, 2, 1, 0] rfl ?_
          exact kJ158 _ _ _ _ _ _ hf
        · refine z_aload_n C dL_words_48 4 rfl rfl ?_
          refine z_bipush C (v := 18) dL_words_49 (by decide) ?_
          refine z_iload_n C dL_words_51 5 rfl rfl ?_
          refine z_aload_n C dL_words_52 4 rfl rfl ?_
          refine z_bipush C (v := 6) dL_words_53 (by decide) ?_
          obtain ⟨x172, h173, m174, n9, g171, hf, e9⟩ := zclE hf
          refine z_callL (kc' := n9) (ks' := 6 * n9) CL (ML_about (xl X) CL.2.2.2 (xD X) (xT X) (xlo X) hi g171) cw_L_180 ys_L_about dL_words_55 rfl ⟨Nat.le_of_ble_eq_true rfl, Nat.le_of_ble_eq_true rfl⟩ ⟨by show m174 + _ = _; omega, by show 6 * m174 + _ = _; omega⟩ (Nat.le_of_ble_eq_true rfl) (st := [.int p1, .int 18, .ref p0]) rfl ?_
          refine z_iconst C (v := 0) dL_words_58 (by decide) ?_
          refine z_iconst C (v := 0) dL_words_59 (by decide) ?_
          obtain ⟨x176, h177, m178, n9, g175, hf, e9⟩ := zclE hf
          refine z_callL (kc' := n9) (ks' := 6 * n9) CL (ML_call (xl X) CL.2.2.2 (xD X) (xT X) (xlo X) hi g175) cw_L_174 ys_L_call dL_words_60 rfl ⟨Nat.le_of_ble_eq_true rfl, Nat.le_of_ble_eq_true rfl⟩ ⟨by show m178 + _ = _; omega, by show 6 * m178 + _ = _; omega⟩ (Nat.le_of_ble_eq_true rfl) (st := []) rfl ?_
          refine z_iload_n C dL_words_63 3 rfl rfl ?_
          refine z_icmp_ne (tgt := 94) C dL_words_64 (by decide) hf (fun hf => ?_) (fun hf => ?_)
          · refine z_sub [4, 5, 3, 2, 1, 0] rfl ?_
            exact kJ158 _ _ _ _ _ _ hf
          · refine z_aload_n C dL_words_67 4 rfl rfl ?_
            refine z_bipush C (v := 18) dL_words_68 (by decide) ?_
            refine z_iload_n C dL_words_70 5 rfl rfl ?_
            refine z_iconst C (v := 1) dL_words_71 (by decide) ?_
            refine z_iconst C (v := 0) dL_words_72 (by decide) ?_
            refine z_iconst C (v := 0) dL_words_73 (by decide) ?_
            obtain ⟨x180, h181, m182, n9, g179, hf, e9⟩ := zclE hf
            refine z_callL (kc' := n9) (ks' := 6 * n9) CL (ML_call (xl X) CL.2.2.2 (xD X) (xT X) (xlo X) hi g179) cw_L_174 ys_L_call dL_words_74 rfl ⟨Nat.le_of_ble_eq_true rfl, Nat.le_of_ble_eq_true rfl⟩ ⟨by show m182 + _ = _; omega, by show 6 * m182 + _ = _; omega⟩ (Nat.le_of_ble_eq_true rfl) (st := []) rfl ?_
            refine z_aload_n C dL_words_77 4 rfl rfl ?_
            refine z_bipush C (v := 18) dL_words_78 (by decide) ?_
            refine z_iload_n C dL_words_80 5 rfl rfl ?_
            refine z_iconst C (v := 3) dL_words_81 (by decide) ?_
            refine z_iconst C (v := 0) dL_words_82 (by decide) ?_
            refine z_iconst C (v := 0) dL_words_83 (by decide) ?_
            obtain ⟨x184, h185, m186, n9, g183, hf, e9⟩ := zclE hf
            refine z_callL (kc' := n9) (ks' := 6 * n9) CL (ML_call (xl X) CL.2.2.2 (xD X) (xT X) (xlo X) hi g183) cw_L_174 ys_L_call dL_words_84 rfl ⟨Nat.le_of_ble_eq_true rfl, Nat.le_of_ble_eq_true rfl⟩ ⟨by show m186 + _ = _; omega, by show 6 * m186 + _ = _; omega⟩ (Nat.le_of_ble_eq_true rfl) (st := [.int x180]) rfl ?_
            refine z_icmp_lt (tgt := 94) C dL_words_87 (by decide) hf (fun hf => ?_) (fun hf => ?_)
            · refine z_sub [4, 5, 3, 2, 1, 0] rfl ?_
              exact kJ158 _ _ _ _ _ _ hf
            · refine z_iconst C (v := 1) dL_words_90 (by decide) ?_
              refine z_goto (tgt := 95) C dL_words_91 (by decide) ?_
              refine z_sub [4, 5, 3, 2, 1, 0] rfl ?_
              exact kJ7 _ _ _ _ _ _ _ hf
theorem ML_words (l : Launch) (hl9 : l.stackTraces = false) (D : va_G) (T : zT) (lo hi : Nat) {h : zH} {p0 : Nat} {p1 : Int32} {rv : Int32} {rh : zH} {n9 : Nat} (hf : FL_words T p0 p1 h = some (rv, rh, n9)) : zMW l yL_words (.code yL_words cL_words 11 (some .boolean) :: TW) ({ frames := 11, cells := n9, slots := 6 * n9, locals := 241 } : Room) D T lo [.ref p0, .int p1] hi h (some (.int rv), hi, rh) :=
  z_enterL hl9 (own := RL) (nm := "words") (lv := [(0, .ref p0), (1, .int p1)]) (by decide +kernel) rfl rfl (Nat.le_of_ble_eq_true rfl) rfl (fun _ _ _ _ _ _ _ _ C => BL_words C hf)
