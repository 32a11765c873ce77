theorem dL_marks_0 : decode cL_marks 0 = .ok (.iconst 0, 1) := by decide +kernel
theorem dL_marks_1 : decode cL_marks 1 = .ok (.istore_n 1, 1) := by decide +kernel
theorem dL_marks_2 : decode cL_marks 2 = .ok (.iconst 0, 1) := by decide +kernel
theorem dL_marks_3 : decode cL_marks 3 = .ok (.istore_n 2, 1) := by decide +kernel
theorem dL_marks_4 : decode cL_marks 4 = .ok (.iconst 0, 1) := by decide +kernel
theorem dL_marks_5 : decode cL_marks 5 = .ok (.istore_n 3, 1) := by decide +kernel
theorem dL_marks_6 : decode cL_marks 6 = .ok (.iconst 0, 1) := by decide +kernel
theorem dL_marks_7 : decode cL_marks 7 = .ok (.istore 4, 2) := by decide +kernel
theorem dL_marks_9 : decode cL_marks 9 = .ok (.iconst 1, 1) := by decide +kernel
theorem dL_marks_10 : decode cL_marks 10 = .ok (.istore 5, 2) := by decide +kernel
theorem dL_marks_12 : decode cL_marks 12 = .ok (.iconst 0, 1) := by decide +kernel
theorem dL_marks_13 : decode cL_marks 13 = .ok (.istore 6, 2) := by decide +kernel
theorem dL_marks_15 : decode cL_marks 15 = .ok (.iload 6, 2) := by decide +kernel
theorem dL_marks_17 : decode cL_marks 17 = .ok (.aload_n 0, 1) := by decide +kernel
theorem dL_marks_18 : decode cL_marks 18 = .ok (.iconst 1, 1) := by decide +kernel
theorem dL_marks_19 : decode cL_marks 19 = .ok (.invokestatic 180, 3) := by decide +kernel
theorem dL_marks_22 : decode cL_marks 22 = .ok (.if_icmp .ge 426, 3) := by decide +kernel
theorem dL_marks_25 : decode cL_marks 25 = .ok (.iconst 0, 1) := by decide +kernel
theorem dL_marks_26 : decode cL_marks 26 = .ok (.istore 7, 2) := by decide +kernel
theorem dL_marks_28 : decode cL_marks 28 = .ok (.iload 7, 2) := by decide +kernel
theorem dL_marks_30 : decode cL_marks 30 = .ok (.aload_n 0, 1) := by decide +kernel
theorem dL_marks_31 : decode cL_marks 31 = .ok (.iconst 0, 1) := by decide +kernel
theorem dL_marks_32 : decode cL_marks 32 = .ok (.invokestatic 180, 3) := by decide +kernel
theorem dL_marks_35 : decode cL_marks 35 = .ok (.if_icmp .ge 407, 3) := by decide +kernel
theorem dL_marks_38 : decode cL_marks 38 = .ok (.aload_n 0, 1) := by decide +kernel
theorem dL_marks_39 : decode cL_marks 39 = .ok (.iconst 4, 1) := by decide +kernel
theorem dL_marks_40 : decode cL_marks 40 = .ok (.iload 7, 2) := by decide +kernel
theorem dL_marks_42 : decode cL_marks 42 = .ok (.iload 6, 2) := by decide +kernel
theorem dL_marks_44 : decode cL_marks 44 = .ok (.iconst 0, 1) := by decide +kernel
theorem dL_marks_45 : decode cL_marks 45 = .ok (.iconst 0, 1) := by decide +kernel
theorem dL_marks_46 : decode cL_marks 46 = .ok (.invokestatic 174, 3) := by decide +kernel
theorem dL_marks_49 : decode cL_marks 49 = .ok (.istore 8, 2) := by decide +kernel
theorem dL_marks_51 : decode cL_marks 51 = .ok (.iconst 0, 1) := by decide +kernel
theorem dL_marks_52 : decode cL_marks 52 = .ok (.istore 9, 2) := by decide +kernel
theorem dL_marks_54 : decode cL_marks 54 = .ok (.iconst 0, 1) := by decide +kernel
theorem dL_marks_55 : decode cL_marks 55 = .ok (.istore 10, 2) := by decide +kernel
theorem dL_marks_57 : decode cL_marks 57 = .ok (.iload 10, 2) := by decide +kernel
theorem dL_marks_59 : decode cL_marks 59 = .ok (.iload 8, 2) := by decide +kernel
theorem dL_marks_61 : decode cL_marks 61 = .ok (.if_icmp .ge 288, 3) := by decide +kernel
theorem dL_marks_64 : decode cL_marks 64 = .ok (.aload_n 0, 1) := by decide +kernel
theorem dL_marks_65 : decode cL_marks 65 = .ok (.iconst 5, 1) := by decide +kernel
theorem dL_marks_66 : decode cL_marks 66 = .ok (.iload 7, 2) := by decide +kernel
theorem dL_marks_68 : decode cL_marks 68 = .ok (.iload 6, 2) := by decide +kernel
theorem dL_marks_70 : decode cL_marks 70 = .ok (.iload 10, 2) := by decide +kernel
theorem dL_marks_72 : decode cL_marks 72 = .ok (.iconst 4, 1) := by decide +kernel
theorem dL_marks_73 : decode cL_marks 73 = .ok (.invokestatic 174, 3) := by decide +kernel
theorem dL_marks_76 : decode cL_marks 76 = .ok (.istore 11, 2) := by decide +kernel
theorem dL_marks_78 : decode cL_marks 78 = .ok (.aload_n 0, 1) := by decide +kernel
theorem dL_marks_79 : decode cL_marks 79 = .ok (.iconst 5, 1) := by decide +kernel
theorem dL_marks_80 : decode cL_marks 80 = .ok (.iload 7, 2) := by decide +kernel
theorem dL_marks_82 : decode cL_marks 82 = .ok (.iload 6, 2) := by decide +kernel
theorem dL_marks_84 : decode cL_marks 84 = .ok (.iload 10, 2) := by decide +kernel
theorem dL_marks_86 : decode cL_marks 86 = .ok (.iconst 5, 1) := by decide +kernel
theorem dL_marks_87 : decode cL_marks 87 = .ok (.invokestatic 174, 3) := by decide +kernel
theorem dL_marks_90 : decode cL_marks 90 = .ok (.istore 12, 2) := by decide +kernel
theorem dL_marks_92 : decode cL_marks 92 = .ok (.iload 5, 2) := by decide +kernel
theorem dL_marks_94 : decode cL_marks 94 = .ok (.iload 11, 2) := by decide +kernel
theorem dL_marks_96 : decode cL_marks 96 = .ok (.bipush (-9), 2) := by decide +kernel
theorem dL_marks_98 : decode cL_marks 98 = .ok (.if_icmp .ne 7, 3) := by decide +kernel
theorem dL_marks_101 : decode cL_marks 101 = .ok (.iconst 1, 1) := by decide +kernel
theorem dL_marks_102 : decode cL_marks 102 = .ok (.goto 4, 3) := by decide +kernel
theorem dL_marks_105 : decode cL_marks 105 = .ok (.iconst 0, 1) := by decide +kernel
theorem dL_marks_106 : decode cL_marks 106 = .ok (.iload 12, 2) := by decide +kernel
theorem dL_marks_108 : decode cL_marks 108 = .ok (.iconst 5, 1) := by decide +kernel
theorem dL_marks_109 : decode cL_marks 109 = .ok (.if_icmp .ne 7, 3) := by decide +kernel
theorem dL_marks_112 : decode cL_marks 112 = .ok (.iconst 1, 1) := by decide +kernel
theorem dL_marks_113 : decode cL_marks 113 = .ok (.goto 4, 3) := by decide +kernel
theorem dL_marks_116 : decode cL_marks 116 = .ok (.iconst 0, 1) := by decide +kernel
theorem dL_marks_117 : decode cL_marks 117 = .ok (.if_icmp .ne 67, 3) := by decide +kernel
theorem dL_marks_120 : decode cL_marks 120 = .ok (.iload 12, 2) := by decide +kernel
theorem dL_marks_122 : decode cL_marks 122 = .ok (.iconst 1, 1) := by decide +kernel
theorem dL_marks_123 : decode cL_marks 123 = .ok (.if_icmp .ne 7, 3) := by decide +kernel
theorem dL_marks_126 : decode cL_marks 126 = .ok (.iconst 1, 1) := by decide +kernel
theorem dL_marks_127 : decode cL_marks 127 = .ok (.goto 4, 3) := by decide +kernel
theorem dL_marks_130 : decode cL_marks 130 = .ok (.iconst 0, 1) := by decide +kernel
theorem dL_marks_131 : decode cL_marks 131 = .ok (.aload_n 0, 1) := by decide +kernel
theorem dL_marks_132 : decode cL_marks 132 = .ok (.iconst 5, 1) := by decide +kernel
theorem dL_marks_133 : decode cL_marks 133 = .ok (.iload 7, 2) := by decide +kernel
theorem dL_marks_135 : decode cL_marks 135 = .ok (.iload 6, 2) := by decide +kernel
theorem dL_marks_137 : decode cL_marks 137 = .ok (.iload 10, 2) := by decide +kernel
theorem dL_marks_139 : decode cL_marks 139 = .ok (.iconst 3, 1) := by decide +kernel
theorem dL_marks_140 : decode cL_marks 140 = .ok (.invokestatic 174, 3) := by decide +kernel
theorem dL_marks_143 : decode cL_marks 143 = .ok (.bipush (-9), 2) := by decide +kernel
theorem dL_marks_145 : decode cL_marks 145 = .ok (.if_icmp .eq 7, 3) := by decide +kernel
theorem dL_marks_148 : decode cL_marks 148 = .ok (.iconst 1, 1) := by decide +kernel
theorem dL_marks_149 : decode cL_marks 149 = .ok (.goto 4, 3) := by decide +kernel
theorem dL_marks_152 : decode cL_marks 152 = .ok (.iconst 0, 1) := by decide +kernel
theorem dL_marks_153 : decode cL_marks 153 = .ok (.if_icmp .ne 31, 3) := by decide +kernel
theorem dL_marks_156 : decode cL_marks 156 = .ok (.iload 12, 2) := by decide +kernel
theorem dL_marks_158 : decode cL_marks 158 = .ok (.iconst 3, 1) := by decide +kernel
theorem dL_marks_159 : decode cL_marks 159 = .ok (.if_icmp .ne 9, 3) := by decide +kernel
theorem dL_marks_162 : decode cL_marks 162 = .ok (.iload 8, 2) := by decide +kernel
theorem dL_marks_164 : decode cL_marks 164 = .ok (.iconst 1, 1) := by decide +kernel
theorem dL_marks_165 : decode cL_marks 165 = .ok (.if_icmp .ne 19, 3) := by decide +kernel
theorem dL_marks_168 : decode cL_marks 168 = .ok (.iload 12, 2) := by decide +kernel
theorem dL_marks_170 : decode cL_marks 170 = .ok (.iconst 4, 1) := by decide +kernel
theorem dL_marks_171 : decode cL_marks 171 = .ok (.if_icmp .ne 9, 3) := by decide +kernel
theorem dL_marks_174 : decode cL_marks 174 = .ok (.iload 8, 2) := by decide +kernel
theorem dL_marks_176 : decode cL_marks 176 = .ok (.iconst 2, 1) := by decide +kernel
theorem dL_marks_177 : decode cL_marks 177 = .ok (.if_icmp .ne 7, 3) := by decide +kernel
theorem dL_marks_180 : decode cL_marks 180 = .ok (.iconst 1, 1) := by decide +kernel
theorem dL_marks_181 : decode cL_marks 181 = .ok (.goto 4, 3) := by decide +kernel
theorem dL_marks_184 : decode cL_marks 184 = .ok (.iconst 0, 1) := by decide +kernel
theorem dL_marks_185 : decode cL_marks 185 = .ok (.iand, 1) := by decide +kernel
theorem dL_marks_186 : decode cL_marks 186 = .ok (.istore 5, 2) := by decide +kernel
theorem dL_marks_188 : decode cL_marks 188 = .ok (.iload 5, 2) := by decide +kernel
theorem dL_marks_190 : decode cL_marks 190 = .ok (.iload 11, 2) := by decide +kernel
theorem dL_marks_192 : decode cL_marks 192 = .ok (.bipush (-9), 2) := by decide +kernel
theorem dL_marks_194 : decode cL_marks 194 = .ok (.if_icmp .eq 29, 3) := by decide +kernel
theorem dL_marks_197 : decode cL_marks 197 = .ok (.iload 9, 2) := by decide +kernel
theorem dL_marks_199 : decode cL_marks 199 = .ok (.iload 11, 2) := by decide +kernel
theorem dL_marks_201 : decode cL_marks 201 = .ok (.ishr, 1) := by decide +kernel
theorem dL_marks_202 : decode cL_marks 202 = .ok (.iconst 1, 1) := by decide +kernel
theorem dL_marks_203 : decode cL_marks 203 = .ok (.iand, 1) := by decide +kernel
theorem dL_marks_204 : decode cL_marks 204 = .ok (.ifCond .ne 23, 3) := by decide +kernel
theorem dL_marks_207 : decode cL_marks 207 = .ok (.aload_n 0, 1) := by decide +kernel
theorem dL_marks_208 : decode cL_marks 208 = .ok (.bipush 8, 2) := by decide +kernel
theorem dL_marks_210 : decode cL_marks 210 = .ok (.iload 11, 2) := by decide +kernel
theorem dL_marks_212 : decode cL_marks 212 = .ok (.iload 7, 2) := by decide +kernel
theorem dL_marks_214 : decode cL_marks 214 = .ok (.iload 6, 2) := by decide +kernel
theorem dL_marks_216 : decode cL_marks 216 = .ok (.iconst 0, 1) := by decide +kernel
theorem dL_marks_217 : decode cL_marks 217 = .ok (.invokestatic 174, 3) := by decide +kernel
theorem dL_marks_220 : decode cL_marks 220 = .ok (.ifCond .lt 7, 3) := by decide +kernel
theorem dL_marks_223 : decode cL_marks 223 = .ok (.iconst 1, 1) := by decide +kernel
theorem dL_marks_224 : decode cL_marks 224 = .ok (.goto 4, 3) := by decide +kernel
theorem dL_marks_227 : decode cL_marks 227 = .ok (.iconst 0, 1) := by decide +kernel
theorem dL_marks_228 : decode cL_marks 228 = .ok (.iand, 1) := by decide +kernel
theorem dL_marks_229 : decode cL_marks 229 = .ok (.istore 5, 2) := by decide +kernel
theorem dL_marks_231 : decode cL_marks 231 = .ok (.iload 5, 2) := by decide +kernel
theorem dL_marks_233 : decode cL_marks 233 = .ok (.iload 12, 2) := by decide +kernel
theorem dL_marks_235 : decode cL_marks 235 = .ok (.iconst 3, 1) := by decide +kernel
theorem dL_marks_236 : decode cL_marks 236 = .ok (.if_icmp .ne 50, 3) := by decide +kernel
theorem dL_marks_239 : decode cL_marks 239 = .ok (.iload 11, 2) := by decide +kernel
theorem dL_marks_241 : decode cL_marks 241 = .ok (.ifCond .ne 7, 3) := by decide +kernel
theorem dL_marks_244 : decode cL_marks 244 = .ok (.iconst 1, 1) := by decide +kernel
theorem dL_marks_245 : decode cL_marks 245 = .ok (.goto 4, 3) := by decide +kernel
theorem dL_marks_248 : decode cL_marks 248 = .ok (.iconst 0, 1) := by decide +kernel
theorem dL_marks_249 : decode cL_marks 249 = .ok (.aload_n 0, 1) := by decide +kernel
theorem dL_marks_250 : decode cL_marks 250 = .ok (.iconst 5, 1) := by decide +kernel
theorem dL_marks_251 : decode cL_marks 251 = .ok (.iload 7, 2) := by decide +kernel
theorem dL_marks_253 : decode cL_marks 253 = .ok (.iload 6, 2) := by decide +kernel
theorem dL_marks_255 : decode cL_marks 255 = .ok (.iload 10, 2) := by decide +kernel
theorem dL_marks_257 : decode cL_marks 257 = .ok (.bipush 6, 2) := by decide +kernel
theorem dL_marks_259 : decode cL_marks 259 = .ok (.invokestatic 174, 3) := by decide +kernel
theorem dL_marks_262 : decode cL_marks 262 = .ok (.aload_n 0, 1) := by decide +kernel
theorem dL_marks_263 : decode cL_marks 263 = .ok (.iconst 5, 1) := by decide +kernel
theorem dL_marks_264 : decode cL_marks 264 = .ok (.iload 7, 2) := by decide +kernel
theorem dL_marks_266 : decode cL_marks 266 = .ok (.iload 6, 2) := by decide +kernel
theorem dL_marks_268 : decode cL_marks 268 = .ok (.iload 10, 2) := by decide +kernel
theorem dL_marks_270 : decode cL_marks 270 = .ok (.bipush 7, 2) := by decide +kernel
theorem dL_marks_272 : decode cL_marks 272 = .ok (.invokestatic 174, 3) := by decide +kernel
theorem dL_marks_275 : decode cL_marks 275 = .ok (.if_icmp .ge 7, 3) := by decide +kernel
theorem dL_marks_278 : decode cL_marks 278 = .ok (.iconst 1, 1) := by decide +kernel
theorem dL_marks_279 : decode cL_marks 279 = .ok (.goto 4, 3) := by decide +kernel
theorem dL_marks_282 : decode cL_marks 282 = .ok (.iconst 0, 1) := by decide +kernel
theorem dL_marks_283 : decode cL_marks 283 = .ok (.if_icmp .ne 7, 3) := by decide +kernel
theorem dL_marks_286 : decode cL_marks 286 = .ok (.iconst 1, 1) := by decide +kernel
theorem dL_marks_287 : decode cL_marks 287 = .ok (.goto 4, 3) := by decide +kernel
theorem dL_marks_290 : decode cL_marks 290 = .ok (.iconst 0, 1) := by decide +kernel
theorem dL_marks_291 : decode cL_marks 291 = .ok (.iand, 1) := by decide +kernel
theorem dL_marks_292 : decode cL_marks 292 = .ok (.istore 5, 2) := by decide +kernel
theorem dL_marks_294 : decode cL_marks 294 = .ok (.iload 9, 2) := by decide +kernel
theorem dL_marks_296 : decode cL_marks 296 = .ok (.iload 11, 2) := by decide +kernel
theorem dL_marks_298 : decode cL_marks 298 = .ok (.bipush (-9), 2) := by decide +kernel
theorem dL_marks_300 : decode cL_marks 300 = .ok (.if_icmp .ne 7, 3) := by decide +kernel
theorem dL_marks_303 : decode cL_marks 303 = .ok (.iconst 0, 1) := by decide +kernel
theorem dL_marks_304 : decode cL_marks 304 = .ok (.goto 7, 3) := by decide +kernel
theorem dL_marks_307 : decode cL_marks 307 = .ok (.iconst 1, 1) := by decide +kernel
theorem dL_marks_308 : decode cL_marks 308 = .ok (.iload 11, 2) := by decide +kernel
theorem dL_marks_310 : decode cL_marks 310 = .ok (.ishl, 1) := by decide +kernel
theorem dL_marks_311 : decode cL_marks 311 = .ok (.ior, 1) := by decide +kernel
theorem dL_marks_312 : decode cL_marks 312 = .ok (.istore 9, 2) := by decide +kernel
theorem dL_marks_314 : decode cL_marks 314 = .ok (.iload_n 2, 1) := by decide +kernel
theorem dL_marks_315 : decode cL_marks 315 = .ok (.iload 11, 2) := by decide +kernel
theorem dL_marks_317 : decode cL_marks 317 = .ok (.bipush (-9), 2) := by decide +kernel
theorem dL_marks_319 : decode cL_marks 319 = .ok (.if_icmp .ne 7, 3) := by decide +kernel
theorem dL_marks_322 : decode cL_marks 322 = .ok (.iconst 0, 1) := by decide +kernel
theorem dL_marks_323 : decode cL_marks 323 = .ok (.goto 4, 3) := by decide +kernel
theorem dL_marks_326 : decode cL_marks 326 = .ok (.iconst 1, 1) := by decide +kernel
theorem dL_marks_327 : decode cL_marks 327 = .ok (.iadd, 1) := by decide +kernel
theorem dL_marks_328 : decode cL_marks 328 = .ok (.istore_n 2, 1) := by decide +kernel
theorem dL_marks_329 : decode cL_marks 329 = .ok (.iload_n 3, 1) := by decide +kernel
theorem dL_marks_330 : decode cL_marks 330 = .ok (.iload 12, 2) := by decide +kernel
theorem dL_marks_332 : decode cL_marks 332 = .ok (.iconst 1, 1) := by decide +kernel
theorem dL_marks_333 : decode cL_marks 333 = .ok (.if_icmp .ne 7, 3) := by decide +kernel
theorem dL_marks_336 : decode cL_marks 336 = .ok (.iconst 1, 1) := by decide +kernel
theorem dL_marks_337 : decode cL_marks 337 = .ok (.goto 4, 3) := by decide +kernel
theorem dL_marks_340 : decode cL_marks 340 = .ok (.iconst 0, 1) := by decide +kernel
theorem dL_marks_341 : decode cL_marks 341 = .ok (.iadd, 1) := by decide +kernel
theorem dL_marks_342 : decode cL_marks 342 = .ok (.istore_n 3, 1) := by decide +kernel
theorem dL_marks_343 : decode cL_marks 343 = .ok (.iinc 10 1, 3) := by decide +kernel
theorem dL_marks_346 : decode cL_marks 346 = .ok (.goto (-289), 3) := by decide +kernel
theorem dL_marks_349 : decode cL_marks 349 = .ok (.iconst 0, 1) := by decide +kernel
theorem dL_marks_350 : decode cL_marks 350 = .ok (.istore 10, 2) := by decide +kernel
theorem dL_marks_352 : decode cL_marks 352 = .ok (.iload 10, 2) := by decide +kernel
theorem dL_marks_354 : decode cL_marks 354 = .ok (.iconst 2, 1) := by decide +kernel
theorem dL_marks_355 : decode cL_marks 355 = .ok (.if_icmp .ge 60, 3) := by decide +kernel
theorem dL_marks_358 : decode cL_marks 358 = .ok (.iload 5, 2) := by decide +kernel
theorem dL_marks_360 : decode cL_marks 360 = .ok (.aload_n 0, 1) := by decide +kernel
theorem dL_marks_361 : decode cL_marks 361 = .ok (.bipush 8, 2) := by decide +kernel
theorem dL_marks_363 : decode cL_marks 363 = .ok (.iload 10, 2) := by decide +kernel
theorem dL_marks_365 : decode cL_marks 365 = .ok (.iload 7, 2) := by decide +kernel
theorem dL_marks_367 : decode cL_marks 367 = .ok (.iload 6, 2) := by decide +kernel
theorem dL_marks_369 : decode cL_marks 369 = .ok (.iconst 0, 1) := by decide +kernel
theorem dL_marks_370 : decode cL_marks 370 = .ok (.invokestatic 174, 3) := by decide +kernel
theorem dL_marks_373 : decode cL_marks 373 = .ok (.bipush (-9), 2) := by decide +kernel
theorem dL_marks_375 : decode cL_marks 375 = .ok (.if_icmp .ne 7, 3) := by decide +kernel
theorem dL_marks_378 : decode cL_marks 378 = .ok (.iconst 1, 1) := by decide +kernel
theorem dL_marks_379 : decode cL_marks 379 = .ok (.goto 4, 3) := by decide +kernel
theorem dL_marks_382 : decode cL_marks 382 = .ok (.iconst 0, 1) := by decide +kernel
theorem dL_marks_383 : decode cL_marks 383 = .ok (.iload 9, 2) := by decide +kernel
theorem dL_marks_385 : decode cL_marks 385 = .ok (.iload 10, 2) := by decide +kernel
theorem dL_marks_387 : decode cL_marks 387 = .ok (.ishr, 1) := by decide +kernel
theorem dL_marks_388 : decode cL_marks 388 = .ok (.iconst 1, 1) := by decide +kernel
theorem dL_marks_389 : decode cL_marks 389 = .ok (.iand, 1) := by decide +kernel
theorem dL_marks_390 : decode cL_marks 390 = .ok (.ifCond .ne 7, 3) := by decide +kernel
theorem dL_marks_393 : decode cL_marks 393 = .ok (.iconst 1, 1) := by decide +kernel
theorem dL_marks_394 : decode cL_marks 394 = .ok (.goto 4, 3) := by decide +kernel
theorem dL_marks_397 : decode cL_marks 397 = .ok (.iconst 0, 1) := by decide +kernel
theorem dL_marks_398 : decode cL_marks 398 = .ok (.if_icmp .ne 7, 3) := by decide +kernel
theorem dL_marks_401 : decode cL_marks 401 = .ok (.iconst 1, 1) := by decide +kernel
theorem dL_marks_402 : decode cL_marks 402 = .ok (.goto 4, 3) := by decide +kernel
theorem dL_marks_405 : decode cL_marks 405 = .ok (.iconst 0, 1) := by decide +kernel
theorem dL_marks_406 : decode cL_marks 406 = .ok (.iand, 1) := by decide +kernel
theorem dL_marks_407 : decode cL_marks 407 = .ok (.istore 5, 2) := by decide +kernel
theorem dL_marks_409 : decode cL_marks 409 = .ok (.iinc 10 1, 3) := by decide +kernel
theorem dL_marks_412 : decode cL_marks 412 = .ok (.goto (-60), 3) := by decide +kernel
theorem dL_marks_415 : decode cL_marks 415 = .ok (.iload_n 1, 1) := by decide +kernel
theorem dL_marks_416 : decode cL_marks 416 = .ok (.iload 8, 2) := by decide +kernel
theorem dL_marks_418 : decode cL_marks 418 = .ok (.iadd, 1) := by decide +kernel
theorem dL_marks_419 : decode cL_marks 419 = .ok (.istore_n 1, 1) := by decide +kernel
theorem dL_marks_420 : decode cL_marks 420 = .ok (.iload 4, 2) := by decide +kernel
theorem dL_marks_422 : decode cL_marks 422 = .ok (.iload 8, 2) := by decide +kernel
theorem dL_marks_424 : decode cL_marks 424 = .ok (.iconst 2, 1) := by decide +kernel
theorem dL_marks_425 : decode cL_marks 425 = .ok (.if_icmp .ne 7, 3) := by decide +kernel
theorem dL_marks_428 : decode cL_marks 428 = .ok (.iconst 1, 1) := by decide +kernel
theorem dL_marks_429 : decode cL_marks 429 = .ok (.goto 4, 3) := by decide +kernel
theorem dL_marks_432 : decode cL_marks 432 = .ok (.iconst 0, 1) := by decide +kernel
theorem dL_marks_433 : decode cL_marks 433 = .ok (.iadd, 1) := by decide +kernel
theorem dL_marks_434 : decode cL_marks 434 = .ok (.istore 4, 2) := by decide +kernel
theorem dL_marks_436 : decode cL_marks 436 = .ok (.iinc 7 1, 3) := by decide +kernel
theorem dL_marks_439 : decode cL_marks 439 = .ok (.goto (-411), 3) := by decide +kernel
theorem dL_marks_442 : decode cL_marks 442 = .ok (.iinc 6 1, 3) := by decide +kernel
theorem dL_marks_445 : decode cL_marks 445 = .ok (.goto (-430), 3) := by decide +kernel
theorem dL_marks_448 : decode cL_marks 448 = .ok (.iload 5, 2) := by decide +kernel
theorem dL_marks_450 : decode cL_marks 450 = .ok (.ifCond .eq 64, 3) := by decide +kernel
theorem dL_marks_453 : decode cL_marks 453 = .ok (.iload_n 1, 1) := by decide +kernel
theorem dL_marks_454 : decode cL_marks 454 = .ok (.aload_n 0, 1) := by decide +kernel
theorem dL_marks_455 : decode cL_marks 455 = .ok (.iconst 2, 1) := by decide +kernel
theorem dL_marks_456 : decode cL_marks 456 = .ok (.invokestatic 180, 3) := by decide +kernel
theorem dL_marks_459 : decode cL_marks 459 = .ok (.if_icmp .ne 55, 3) := by decide +kernel
theorem dL_marks_462 : decode cL_marks 462 = .ok (.iload_n 2, 1) := by decide +kernel
theorem dL_marks_463 : decode cL_marks 463 = .ok (.aload_n 0, 1) := by decide +kernel
theorem dL_marks_464 : decode cL_marks 464 = .ok (.bipush 8, 2) := by decide +kernel
theorem dL_marks_466 : decode cL_marks 466 = .ok (.invokestatic 180, 3) := by decide +kernel
theorem dL_marks_469 : decode cL_marks 469 = .ok (.aload_n 0, 1) := by decide +kernel
theorem dL_marks_470 : decode cL_marks 470 = .ok (.bipush 9, 2) := by decide +kernel
theorem dL_marks_472 : decode cL_marks 472 = .ok (.invokestatic 180, 3) := by decide +kernel
theorem dL_marks_475 : decode cL_marks 475 = .ok (.iadd, 1) := by decide +kernel
theorem dL_marks_476 : decode cL_marks 476 = .ok (.if_icmp .ne 38, 3) := by decide +kernel
theorem dL_marks_479 : decode cL_marks 479 = .ok (.iload_n 1, 1) := by decide +kernel
theorem dL_marks_480 : decode cL_marks 480 = .ok (.iload_n 2, 1) := by decide +kernel
theorem dL_marks_481 : decode cL_marks 481 = .ok (.aload_n 0, 1) := by decide +kernel
theorem dL_marks_482 : decode cL_marks 482 = .ok (.iconst 3, 1) := by decide +kernel
theorem dL_marks_483 : decode cL_marks 483 = .ok (.invokestatic 180, 3) := by decide +kernel
theorem dL_marks_486 : decode cL_marks 486 = .ok (.iadd, 1) := by decide +kernel
theorem dL_marks_487 : decode cL_marks 487 = .ok (.if_icmp .ne 27, 3) := by decide +kernel
theorem dL_marks_490 : decode cL_marks 490 = .ok (.iload_n 3, 1) := by decide +kernel
theorem dL_marks_491 : decode cL_marks 491 = .ok (.aload_n 0, 1) := by decide +kernel
theorem dL_marks_492 : decode cL_marks 492 = .ok (.iconst 4, 1) := by decide +kernel
theorem dL_marks_493 : decode cL_marks 493 = .ok (.invokestatic 180, 3) := by decide +kernel
theorem dL_marks_496 : decode cL_marks 496 = .ok (.if_icmp .ne 18, 3) := by decide +kernel
theorem dL_marks_499 : decode cL_marks 499 = .ok (.iload 4, 2) := by decide +kernel
theorem dL_marks_501 : decode cL_marks 501 = .ok (.aload_n 0, 1) := by decide +kernel
theorem dL_marks_502 : decode cL_marks 502 = .ok (.bipush 7, 2) := by decide +kernel
theorem dL_marks_504 : decode cL_marks 504 = .ok (.invokestatic 180, 3) := by decide +kernel
theorem dL_marks_507 : decode cL_marks 507 = .ok (.if_icmp .ne 7, 3) := by decide +kernel
theorem dL_marks_510 : decode cL_marks 510 = .ok (.iconst 1, 1) := by decide +kernel
theorem dL_marks_511 : decode cL_marks 511 = .ok (.goto 4, 3) := by decide +kernel
theorem dL_marks_514 : decode cL_marks 514 = .ok (.iconst 0, 1) := by decide +kernel
theorem dL_marks_515 : decode cL_marks 515 = .ok (.ireturn, 1) := by decide +kernel
def LL_marks_57 {ρ : Type} (T : zT) (x30 : Nat) (x31 : Int32) (x32 : Int32) (x33 : Int32) (x34 : Int32) (x35 : Int32) (K0 : Int32 → Int32 → Int32 → Int32 → zH → Option (ρ × zH × Nat)) : Nat → Int32 → Int32 → Int32 → Int32 → Int32 → zH → Option (ρ × zH × Nat)
  | 0, _, _, _, _, _, _ => none
  | k + 1, x36, x37, x38, x39, x40, h41 => if x35 ≤ x40 then (K0 x36 x37 x38 x39 h41) else (zJ (fun (x42 : Int32) (x43 : Int32) (x44 : Int32) (x45 : Int32) (h46 : zH) => zJ (fun (x48 : Int32) (x49 : Int32) (x50 : Int32) => zJ (fun (x52 : Int32) (x53 : Int32) (h54 : zH) => zJ (fun (x56 : Int32) (x57 : Int32) (h58 : zH) => zJ (fun (x60 : Int32) (x61 : Int32) (h62 : zH) => zJ (fun (x64 : Int32) (x65 : Int32) (x66 : Int32) => zJ (fun (x68 : Int32) (x69 : Int32) (x70 : Int32) => zJ (fun (x72 : Int32) (x73 : Int32) (x74 : Int32) => LL_marks_57 T x30 x31 x32 x33 x34 x35 K0 k x72 (x74 + x73) x64 x68 (x40 + 1) h62) (fun J75 => if x43 = 1 then (J75 (x70 + x69) 1 x37) else (J75 (x70 + x69) 0 x37))) (fun J71 => if x42 = (-9 : Int32) then (J71 (x66 ||| x65) 0 x36) else (J71 (x66 ||| x65) 1 x36))) (fun J67 => if x42 = (-9 : Int32) then (J67 (x61 &&& x60) 0 x39) else (J67 (x61 &&& x60) ((1 : Int32) <<< (x42 &&& 31)) x39))) (fun J63 => zJ (fun (x76 : Int32) (h77 : zH) => J63 1 x76 h77) (fun J78 => if x43 = 3 then (zJ (fun (x79 : Int32) (x80 : Int32) => zJ (fun (x82 : Int32) (x83 : Int32) (x84 : Int32) (h85 : zH) => if x83 = x82 then (J78 x84 h85) else (J63 0 x84 h85)) (fun J86 => zcl (FL_call T x30 5 x34 x33 x40 6 h58) fun x88 h89 => zcl (FL_call T x30 5 x34 x33 x40 7 h89) fun x92 h93 => if x92 ≤ x88 then (J86 0 x79 x80 h93) else (J86 1 x79 x80 h93))) (fun J81 => if x42 = 0 then (J81 1 (x57 &&& x56)) else (J81 0 (x57 &&& x56)))) else (J78 (x57 &&& x56) h58)))) (fun J59 => zJ (fun (x95 : Int32) (h96 : zH) => J59 1 x95 h96) (fun J97 => if x42 = (-9 : Int32) then (J97 (x53 &&& x52) h54) else (zJ (fun (x98 : Int32) (h99 : zH) => J59 0 x98 h99) (fun J100 => if ((x39 >>> (x42 &&& 31)) &&& 1) = 0 then (zcl (FL_call T x30 8 x42 x34 x33 0 h54) fun x102 h103 => if x102 < 0 then (J100 (x53 &&& x52) h103) else (J97 (x53 &&& x52) h103)) else (J100 (x53 &&& x52) h54)))))) (fun J55 => zJ (fun (x105 : Int32) (h106 : zH) => J55 0 x105 h106) (fun J107 => if x49 = x48 then (zJ (fun (x108 : Int32) (x109 : Int32) => zJ (fun (x111 : Int32) (x112 : Int32) (x113 : Int32) (h114 : zH) => if x112 = x111 then (zJ (fun (x116 : Int32) => zJ (fun (x118 : Int32) => J55 1 x118 h114) (fun J119 => if x43 = 4 then (if x35 = 2 then (J119 x116) else (J107 x116 h114)) else (J119 x116))) (fun J117 => if x43 = 3 then (if x35 = 1 then (J117 x113) else (J107 x113 h114)) else (J117 x113))) else (J107 x113 h114)) (fun J115 => zcl (FL_call T x30 5 x34 x33 x40 3 h46) fun x121 h122 => if x121 = (-9 : Int32) then (J115 0 x108 x109 h122) else (J115 1 x108 x109 h122))) (fun J110 => if x43 = 1 then (J110 1 x50) else (J110 0 x50))) else (J107 x50 h46)))) (fun J51 => if x43 = 5 then (J51 1 x44 x45) else (J51 0 x44 x45))) (fun J47 => zcl (FL_call T x30 5 x34 x33 x40 4 h41) fun x125 h126 => zcl (FL_call T x30 5 x34 x33 x40 5 h126) fun x129 h130 => if x125 = (-9 : Int32) then (J47 x125 x129 1 x38 h130) else (J47 x125 x129 0 x38 h130)))
set_option maxHeartbeats 4000000 in
set_option maxRecDepth 100000 in
theorem LL_marks_57_ok {X : zX} (CL : zCL X cL_marks 13 RL "marks" (some .boolean) 11 241) {Z : State → Prop} {hi : Nat} {ρ : Type} {rv : ρ} {rh : zH} {x30 : Nat} {x31 : Int32} {x32 : Int32} {x33 : Int32} {x34 : Int32} {x35 : Int32} {K0 : Int32 → Int32 → Int32 → Int32 → zH → Option (ρ × zH × Nat)} (hK0 : ∀ (y2 : Int32) (y3 : Int32) (y5 : Int32) (y9 : Int32) (g9 : zH) (n9 : Nat), K0 y2 y3 y5 y9 g9 = some (rv, rh, n9) → zW X 13 Z n9 (6 * n9) false hi g9 349 [(0, .ref x30), (1, .int x31), (2, .int y2), (3, .int y3), (4, .int x32), (5, .int y5), (6, .int x33), (7, .int x34), (8, .int x35), (9, .int y9)] []) : ∀ (k : Nat) (x36 : Int32) (x37 : Int32) (x38 : Int32) (x39 : Int32) (x40 : Int32) (h41 : zH) (n9 : Nat), LL_marks_57 (xT X) x30 x31 x32 x33 x34 x35 K0 k x36 x37 x38 x39 x40 h41 = some (rv, rh, n9) → zW X 13 Z n9 (6 * n9) false hi h41 57 [(0, .ref x30), (1, .int x31), (2, .int x36), (3, .int x37), (4, .int x32), (5, .int x38), (6, .int x33), (7, .int x34), (8, .int x35), (9, .int x39), (10, .int x40)] [] := by
  have C := CL.1
  intro k
  induction k with
  | zero =>
    intro x36 x37 x38 x39 x40 h41 n9 hf
    have hf : none = some (rv, rh, n9) := hf
    cases hf
  | succ k ih =>
    intro x36 x37 x38 x39 x40 h41 n9 hf
    rw [LL_marks_57.eq_2] at hf
    refine z_iload C dL_marks_57 10 rfl ?_
    refine z_iload C dL_marks_59 8 rfl ?_
    refine z_icmp_ge (tgt := 349) C dL_marks_61 (by decide) hf (fun hf => ?_) (fun hf => ?_)
    · refine z_sub [0, 1, 2, 3, 4, 5, 6, 7, 8, 9] rfl ?_
      exact hK0 _ _ _ _ _ _ hf
    · refine z_join (P := fun J => ∀ (x42 : Int32) (x43 : Int32) (x44 : Int32) (x45 : Int32) (h46 : zH) (n9 : Nat), J x42 x43 x44 x45 h46 = some (rv, rh, n9) → zW X 13 Z n9 (6 * n9) false hi h46 106 [(0, .ref x30), (1, .int x31), (2, .int x36), (3, .int x37), (4, .int x32), (6, .int x33), (7, .int x34), (8, .int x35), (9, .int x39), (10, .int x40), (11, .int x42), (12, .int x43)] [.int x44, .int x45]) hf ?_ ?_
      · intro x42 x43 x44 x45 h46 n9 hf
        refine z_join (P := fun J => ∀ (x48 : Int32) (x49 : Int32) (x50 : Int32) (n9 : Nat), J x48 x49 x50 = some (rv, rh, n9) → zW X 13 Z n9 (6 * n9) false hi h46 117 [(0, .ref x30), (1, .int x31), (2, .int x36), (3, .int x37), (4, .int x32), (6, .int x33), (7, .int x34), (8, .int x35), (9, .int x39), (10, .int x40), (11, .int x42), (12, .int x43)] [.int x48, .int x49, .int x50]) hf ?_ ?_
        · intro x48 x49 x50 n9 hf
          refine z_join (P := fun J => ∀ (x52 : Int32) (x53 : Int32) (h54 : zH) (n9 : Nat), J x52 x53 h54 = some (rv, rh, n9) → zW X 13 Z n9 (6 * n9) false hi h54 185 [(0, .ref x30), (1, .int x31), (2, .int x36), (3, .int x37), (4, .int x32), (6, .int x33), (7, .int x34), (8, .int x35), (9, .int x39), (10, .int x40), (11, .int x42), (12, .int x43)] [.int x52, .int x53]) hf ?_ ?_
          · intro x52 x53 h54 n9 hf
            refine z_join (P := fun J => ∀ (x56 : Int32) (x57 : Int32) (h58 : zH) (n9 : Nat), J x56 x57 h58 = some (rv, rh, n9) → zW X 13 Z n9 (6 * n9) false hi h58 228 [(0, .ref x30), (1, .int x31), (2, .int x36), (3, .int x37), (4, .int x32), (6, .int x33), (7, .int x34), (8, .int x35), (9, .int x39), (10, .int x40), (11, .int x42), (12, .int x43)] [.int x56, .int x57]) hf ?_ ?_
            · intro x56 x57 h58 n9 hf
              refine z_join (P := fun J => ∀ (x60 : Int32) (x61 : Int32) (h62 : zH) (n9 : Nat), J x60 x61 h62 = some (rv, rh, n9) → zW X 13 Z n9 (6 * n9) false hi h62 291 [(0, .ref x30), (1, .int x31), (2, .int x36), (3, .int x37), (4, .int x32), (6, .int x33), (7, .int x34), (8, .int x35), (9, .int x39), (10, .int x40), (11, .int x42), (12, .int x43)] [.int x60, .int x61]) hf ?_ ?_
              · intro x60 x61 h62 n9 hf
                refine z_join (P := fun J => ∀ (x64 : Int32) (x65 : Int32) (x66 : Int32) (n9 : Nat), J x64 x65 x66 = some (rv, rh, n9) → zW X 13 Z n9 (6 * n9) false hi h62 311 [(0, .ref x30), (1, .int x31), (2, .int x36), (3, .int x37), (4, .int x32), (5, .int x64), (6, .int x33), (7, .int x34), (8, .int x35), (10, .int x40), (11, .int x42), (12, .int x43)] [.int x65, .int x66]) hf ?_ ?_
                · intro x64 x65 x66 n9 hf
                  refine z_join (P := fun J => ∀ (x68 : Int32) (x69 : Int32) (x70 : Int32) (n9 : Nat), J x68 x69 x70 = some (rv, rh, n9) → zW X 13 Z n9 (6 * n9) false hi h62 327 [(0, .ref x30), (1, .int x31), (3, .int x37), (4, .int x32), (5, .int x64), (6, .int x33), (7, .int x34), (8, .int x35), (9, .int x68), (10, .int x40), (12, .int x43)] [.int x69, .int x70]) hf ?_ ?_
                  · intro x68 x69 x70 n9 hf
                    refine z_join (P := fun J => ∀ (x72 : Int32) (x73 : Int32) (x74 : Int32) (n9 : Nat), J x72 x73 x74 = some (rv, rh, n9) → zW X 13 Z n9 (6 * n9) false hi h62 341 [(0, .ref x30), (1, .int x31), (2, .int x72), (4, .int x32), (5, .int x64), (6, .int x33), (7, .int x34), (8, .int x35), (9, .int x68), (10, .int x40)] [.int x73, .int x74]) hf ?_ ?_
                    · intro x72 x73 x74 n9 hf
                      refine z_iadd C dL_marks_341 ?_
                      refine z_istore_n C dL_marks_342 rfl (by decide) (lv' := [(3, .int (x74 + x73)), (0, .ref x30), (1, .int x31), (2, .int x72), (4, .int x32), (5, .int x64), (6, .int x33), (7, .int x34), (8, .int x35), (9, .int x68), (10, .int x40)]) rfl ?_
                      refine z_iinc C dL_marks_343 (k := 10) (d := 1) rfl (by decide) (by decide) (lv' := [(10, .int (x40 + 1)), (3, .int (x74 + x73)), (0, .ref x30), (1, .int x31), (2, .int x72), (4, .int x32), (5, .int x64), (6, .int x33), (7, .int x34), (8, .int x35), (9, .int x68)]) rfl ?_
                      refine z_goto (tgt := 57) C dL_marks_346 (by decide) ?_
                      refine z_sub [2, 3, 4, 1, 5, 6, 7, 8, 9, 10, 0] rfl ?_
                      exact ih _ _ _ _ _ _ _ hf
                    · intro J75 kJ75 hf
                      refine z_iadd C dL_marks_327 ?_
                      refine z_istore_n C dL_marks_328 rfl (by decide) (lv' := [(2, .int (x70 + x69)), (0, .ref x30), (1, .int x31), (3, .int x37), (4, .int x32), (5, .int x64), (6, .int x33), (7, .int x34), (8, .int x35), (9, .int x68), (10, .int x40), (12, .int x43)]) rfl ?_
                      refine z_iload_n C dL_marks_329 3 rfl rfl ?_
                      refine z_iload C dL_marks_330 11 rfl ?_
                      refine z_iconst C (v := 1) dL_marks_332 (by decide) ?_
                      refine z_icmp_ne (tgt := 340) C dL_marks_333 (by decide) hf (fun hf => ?_) (fun hf => ?_)
                      · refine z_iconst C (v := 0) dL_marks_340 (by decide) ?_
                        refine z_sub [1, 2, 0, 4, 5, 6, 7, 8, 9, 10] rfl ?_
                        exact kJ75 _ _ _ _ hf
                      · refine z_iconst C (v := 1) dL_marks_336 (by decide) ?_
                        refine z_goto (tgt := 341) C dL_marks_337 (by decide) ?_
                        refine z_sub [1, 2, 0, 4, 5, 6, 7, 8, 9, 10] rfl ?_
                        exact kJ75 _ _ _ _ hf
                  · intro J71 kJ71 hf
                    refine z_ior C dL_marks_311 ?_
                    refine z_istore C dL_marks_312 (by decide) (lv' := [(9, .int (x66 ||| x65)), (0, .ref x30), (1, .int x31), (2, .int x36), (3, .int x37), (4, .int x32), (5, .int x64), (6, .int x33), (7, .int x34), (8, .int x35), (10, .int x40), (11, .int x42), (12, .int x43)]) rfl ?_
                    refine z_iload_n C dL_marks_314 3 rfl rfl ?_
                    refine z_iload C dL_marks_315 11 rfl ?_
                    refine z_bipush C (v := (-9 : Int32)) dL_marks_317 (by decide) ?_
                    refine z_icmp_ne (tgt := 326) C dL_marks_319 (by decide) hf (fun hf => ?_) (fun hf => ?_)
                    · refine z_iconst C (v := 1) dL_marks_326 (by decide) ?_
                      refine z_sub [1, 2, 4, 5, 6, 7, 8, 9, 0, 10, 12] rfl ?_
                      exact kJ71 _ _ _ _ hf
                    · refine z_iconst C (v := 0) dL_marks_322 (by decide) ?_
                      refine z_goto (tgt := 327) C dL_marks_323 (by decide) ?_
                      refine z_sub [1, 2, 4, 5, 6, 7, 8, 9, 0, 10, 12] rfl ?_
                      exact kJ71 _ _ _ _ hf
                · intro J67 kJ67 hf
                  refine z_iand C dL_marks_291 ?_
                  refine z_istore C dL_marks_292 (by decide) (lv' := [(5, .int (x61 &&& x60)), (0, .ref x30), (1, .int x31), (2, .int x36), (3, .int x37), (4, .int x32), (6, .int x33), (7, .int x34), (8, .int x35), (9, .int x39), (10, .int x40), (11, .int x42), (12, .int x43)]) rfl ?_
                  refine z_iload C dL_marks_294 9 rfl ?_
                  refine z_iload C dL_marks_296 11 rfl ?_
                  refine z_bipush C (v := (-9 : Int32)) dL_marks_298 (by decide) ?_
                  refine z_icmp_ne (tgt := 307) C dL_marks_300 (by decide) hf (fun hf => ?_) (fun hf => ?_)
                  · refine z_iconst C (v := 1) dL_marks_307 (by decide) ?_
                    refine z_iload C dL_marks_308 11 rfl ?_
                    refine z_ishl C dL_marks_310 ?_
                    refine z_sub [1, 2, 3, 4, 5, 0, 6, 7, 8, 10, 11, 12] rfl ?_
                    exact kJ67 _ _ _ _ hf
                  · refine z_iconst C (v := 0) dL_marks_303 (by decide) ?_
                    refine z_goto (tgt := 311) C dL_marks_304 (by decide) ?_
                    refine z_sub [1, 2, 3, 4, 5, 0, 6, 7, 8, 10, 11, 12] rfl ?_
                    exact kJ67 _ _ _ _ hf
              · intro J63 kJ63 hf
                refine z_join (P := fun J => ∀ (x76 : Int32) (h77 : zH) (n9 : Nat), J x76 h77 = some (rv, rh, n9) → zW X 13 Z n9 (6 * n9) false hi h77 286 [(0, .ref x30), (1, .int x31), (2, .int x36), (3, .int x37), (4, .int x32), (6, .int x33), (7, .int x34), (8, .int x35), (9, .int x39), (10, .int x40), (11, .int x42), (12, .int x43)] [.int x76]) hf ?_ ?_
                · intro x76 h77 n9 hf
                  refine z_iconst C (v := 1) dL_marks_286 (by decide) ?_
                  refine z_goto (tgt := 291) C dL_marks_287 (by decide) ?_
                  exact kJ63 _ _ _ _ hf
                · intro J78 kJ78 hf
                  refine z_iand C dL_marks_228 ?_
                  refine z_istore C dL_marks_229 (by decide) (lv' := [(5, .int (x57 &&& x56)), (0, .ref x30), (1, .int x31), (2, .int x36), (3, .int x37), (4, .int x32), (6, .int x33), (7, .int x34), (8, .int x35), (9, .int x39), (10, .int x40), (11, .int x42), (12, .int x43)]) rfl ?_
                  refine z_iload C dL_marks_231 0 rfl ?_
                  refine z_iload C dL_marks_233 12 rfl ?_
                  refine z_iconst C (v := 3) dL_marks_235 (by decide) ?_
                  refine z_icmp_ne (tgt := 286) C dL_marks_236 (by decide) hf (fun hf => ?_) (fun hf => ?_)
                  · refine z_sub [1, 2, 3, 4, 5, 6, 7, 8, 9, 10, 11, 12] rfl ?_
                    exact kJ78 _ _ _ hf
                  · refine z_join (P := fun J => ∀ (x79 : Int32) (x80 : Int32) (n9 : Nat), J x79 x80 = some (rv, rh, n9) → zW X 13 Z n9 (6 * n9) false hi h58 249 [(0, .ref x30), (1, .int x31), (2, .int x36), (3, .int x37), (4, .int x32), (6, .int x33), (7, .int x34), (8, .int x35), (9, .int x39), (10, .int x40), (11, .int x42), (12, .int x43)] [.int x79, .int x80]) hf ?_ ?_
                    · intro x79 x80 n9 hf
                      refine z_join (P := fun J => ∀ (x82 : Int32) (x83 : Int32) (x84 : Int32) (h85 : zH) (n9 : Nat), J x82 x83 x84 h85 = some (rv, rh, n9) → zW X 13 Z n9 (6 * n9) false hi h85 283 [(0, .ref x30), (1, .int x31), (2, .int x36), (3, .int x37), (4, .int x32), (6, .int x33), (7, .int x34), (8, .int x35), (9, .int x39), (10, .int x40), (11, .int x42), (12, .int x43)] [.int x82, .int x83, .int x84]) hf ?_ ?_
                      · intro x82 x83 x84 h85 n9 hf
                        refine z_icmp_ne (tgt := 290) C dL_marks_283 (by decide) hf (fun hf => ?_) (fun hf => ?_)
                        · refine z_iconst C (v := 0) dL_marks_290 (by decide) ?_
                          exact kJ63 _ _ _ _ hf
                        · exact kJ78 _ _ _ hf
                      · intro J86 kJ86 hf
                        refine z_aload_n C dL_marks_249 0 rfl rfl ?_
                        refine z_iconst C (v := 5) dL_marks_250 (by decide) ?_
                        refine z_iload C dL_marks_251 6 rfl ?_
                        refine z_iload C dL_marks_253 5 rfl ?_
                        refine z_iload C dL_marks_255 9 rfl ?_
                        refine z_bipush C (v := 6) dL_marks_257 (by decide) ?_
                        obtain ⟨x88, h89, m90, n9, g87, hf, e9⟩ := zclE hf
                        refine z_callL (kc' := n9) (ks' := 6 * n9) CL (ML_call (xl X) CL.2.2.2 (xD X) (xT X) (xlo X) hi g87) cw_L_174 ys_L_call dL_marks_259 rfl ⟨Nat.le_of_ble_eq_true rfl, Nat.le_of_ble_eq_true rfl⟩ ⟨by show m90 + _ = _; omega, by show 6 * m90 + _ = _; omega⟩ (Nat.le_of_ble_eq_true rfl) (st := [.int x79, .int x80]) rfl ?_
                        refine z_aload_n C dL_marks_262 0 rfl rfl ?_
                        refine z_iconst C (v := 5) dL_marks_263 (by decide) ?_
                        refine z_iload C dL_marks_264 6 rfl ?_
                        refine z_iload C dL_marks_266 5 rfl ?_
                        refine z_iload C dL_marks_268 9 rfl ?_
                        refine z_bipush C (v := 7) dL_marks_270 (by decide) ?_
                        obtain ⟨x92, h93, m94, n9, g91, hf, e9⟩ := zclE hf
                        refine z_callL (kc' := n9) (ks' := 6 * n9) CL (ML_call (xl X) CL.2.2.2 (xD X) (xT X) (xlo X) hi g91) cw_L_174 ys_L_call dL_marks_272 rfl ⟨Nat.le_of_ble_eq_true rfl, Nat.le_of_ble_eq_true rfl⟩ ⟨by show m94 + _ = _; omega, by show 6 * m94 + _ = _; omega⟩ (Nat.le_of_ble_eq_true rfl) (st := [.int x88, .int x79, .int x80]) rfl ?_
                        refine z_icmp_ge (tgt := 282) C dL_marks_275 (by decide) hf (fun hf => ?_) (fun hf => ?_)
                        · refine z_iconst C (v := 0) dL_marks_282 (by decide) ?_
                          exact kJ86 _ _ _ _ _ hf
                        · refine z_iconst C (v := 1) dL_marks_278 (by decide) ?_
                          refine z_goto (tgt := 283) C dL_marks_279 (by decide) ?_
                          exact kJ86 _ _ _ _ _ hf
                    · intro J81 kJ81 hf
                      refine z_iload C dL_marks_239 11 rfl ?_
                      refine z_if_ne (tgt := 248) C dL_marks_241 (by decide) hf (fun hf => ?_) (fun hf => ?_)
                      · refine z_iconst C (v := 0) dL_marks_248 (by decide) ?_
                        refine z_sub [1, 2, 3, 4, 5, 6, 7, 8, 9, 10, 11, 12] rfl ?_
                        exact kJ81 _ _ _ hf
                      · refine z_iconst C (v := 1) dL_marks_244 (by decide) ?_
                        refine z_goto (tgt := 249) C dL_marks_245 (by decide) ?_
                        refine z_sub [1, 2, 3, 4, 5, 6, 7, 8, 9, 10, 11, 12] rfl ?_
                        exact kJ81 _ _ _ hf
            · intro J59 kJ59 hf
              refine z_join (P := fun J => ∀ (x95 : Int32) (h96 : zH) (n9 : Nat), J x95 h96 = some (rv, rh, n9) → zW X 13 Z n9 (6 * n9) false hi h96 223 [(0, .ref x30), (1, .int x31), (2, .int x36), (3, .int x37), (4, .int x32), (6, .int x33), (7, .int x34), (8, .int x35), (9, .int x39), (10, .int x40), (11, .int x42), (12, .int x43)] [.int x95]) hf ?_ ?_
              · intro x95 h96 n9 hf
                refine z_iconst C (v := 1) dL_marks_223 (by decide) ?_
                refine z_goto (tgt := 228) C dL_marks_224 (by decide) ?_
                exact kJ59 _ _ _ _ hf
              · intro J97 kJ97 hf
                refine z_iand C dL_marks_185 ?_
                refine z_istore C dL_marks_186 (by decide) (lv' := [(5, .int (x53 &&& x52)), (0, .ref x30), (1, .int x31), (2, .int x36), (3, .int x37), (4, .int x32), (6, .int x33), (7, .int x34), (8, .int x35), (9, .int x39), (10, .int x40), (11, .int x42), (12, .int x43)]) rfl ?_
                refine z_iload C dL_marks_188 0 rfl ?_
                refine z_iload C dL_marks_190 11 rfl ?_
                refine z_bipush C (v := (-9 : Int32)) dL_marks_192 (by decide) ?_
                refine z_icmp_eq (tgt := 223) C dL_marks_194 (by decide) hf (fun hf => ?_) (fun hf => ?_)
                · refine z_sub [1, 2, 3, 4, 5, 6, 7, 8, 9, 10, 11, 12] rfl ?_
                  exact kJ97 _ _ _ hf
                · refine z_join (P := fun J => ∀ (x98 : Int32) (h99 : zH) (n9 : Nat), J x98 h99 = some (rv, rh, n9) → zW X 13 Z n9 (6 * n9) false hi h99 227 [(0, .ref x30), (1, .int x31), (2, .int x36), (3, .int x37), (4, .int x32), (6, .int x33), (7, .int x34), (8, .int x35), (9, .int x39), (10, .int x40), (11, .int x42), (12, .int x43)] [.int x98]) hf ?_ ?_
                  · intro x98 h99 n9 hf
                    refine z_iconst C (v := 0) dL_marks_227 (by decide) ?_
                    exact kJ59 _ _ _ _ hf
                  · intro J100 kJ100 hf
                    refine z_iload C dL_marks_197 9 rfl ?_
                    refine z_iload C dL_marks_199 11 rfl ?_
                    refine z_ishr C dL_marks_201 ?_
                    refine z_iconst C (v := 1) dL_marks_202 (by decide) ?_
                    refine z_iand C dL_marks_203 ?_
                    refine z_if_ne (tgt := 227) C dL_marks_204 (by decide) hf (fun hf => ?_) (fun hf => ?_)
                    · refine z_sub [1, 2, 3, 4, 5, 6, 7, 8, 9, 10, 11, 12] rfl ?_
                      exact kJ100 _ _ _ hf
                    · refine z_aload_n C dL_marks_207 1 rfl rfl ?_
                      refine z_bipush C (v := 8) dL_marks_208 (by decide) ?_
                      refine z_iload C dL_marks_210 11 rfl ?_
                      refine z_iload C dL_marks_212 7 rfl ?_
                      refine z_iload C dL_marks_214 6 rfl ?_
                      refine z_iconst C (v := 0) dL_marks_216 (by decide) ?_
                      obtain ⟨x102, h103, m104, n9, g101, hf, e9⟩ := zclE hf
                      refine z_callL (kc' := n9) (ks' := 6 * n9) CL (ML_call (xl X) CL.2.2.2 (xD X) (xT X) (xlo X) hi g101) cw_L_174 ys_L_call dL_marks_217 rfl ⟨Nat.le_of_ble_eq_true rfl, Nat.le_of_ble_eq_true rfl⟩ ⟨by show m104 + _ = _; omega, by show 6 * m104 + _ = _; omega⟩ (Nat.le_of_ble_eq_true rfl) (st := [.int (x53 &&& x52)]) rfl ?_
                      refine z_if_lt (tgt := 227) C dL_marks_220 (by decide) hf (fun hf => ?_) (fun hf => ?_)
                      · refine z_sub [1, 2, 3, 4, 5, 6, 7, 8, 9, 10, 11, 12] rfl ?_
                        exact kJ100 _ _ _ hf
                      · refine z_sub [1, 2, 3, 4, 5, 6, 7, 8, 9, 10, 11, 12] rfl ?_
                        exact kJ97 _ _ _ hf
          · intro J55 kJ55 hf
            refine z_join (P := fun J => ∀ (x105 : Int32) (h106 : zH) (n9 : Nat), J x105 h106 = some (rv, rh, n9) → zW X 13 Z n9 (6 * n9) false hi h106 184 [(0, .ref x30), (1, .int x31), (2, .int x36), (3, .int x37), (4, .int x32), (6, .int x33), (7, .int x34), (8, .int x35), (9, .int x39), (10, .int x40), (11, .int x42), (12, .int x43)] [.int x105]) hf ?_ ?_
            · intro x105 h106 n9 hf
              refine z_iconst C (v := 0) dL_marks_184 (by decide) ?_
              exact kJ55 _ _ _ _ hf
            · intro J107 kJ107 hf
              refine z_icmp_ne (tgt := 184) C dL_marks_117 (by decide) hf (fun hf => ?_) (fun hf => ?_)
              · exact kJ107 _ _ _ hf
              · refine z_join (P := fun J => ∀ (x108 : Int32) (x109 : Int32) (n9 : Nat), J x108 x109 = some (rv, rh, n9) → zW X 13 Z n9 (6 * n9) false hi h46 131 [(0, .ref x30), (1, .int x31), (2, .int x36), (3, .int x37), (4, .int x32), (6, .int x33), (7, .int x34), (8, .int x35), (9, .int x39), (10, .int x40), (11, .int x42), (12, .int x43)] [.int x108, .int x109]) hf ?_ ?_
                · intro x108 x109 n9 hf
                  refine z_join (P := fun J => ∀ (x111 : Int32) (x112 : Int32) (x113 : Int32) (h114 : zH) (n9 : Nat), J x111 x112 x113 h114 = some (rv, rh, n9) → zW X 13 Z n9 (6 * n9) false hi h114 153 [(0, .ref x30), (1, .int x31), (2, .int x36), (3, .int x37), (4, .int x32), (6, .int x33), (7, .int x34), (8, .int x35), (9, .int x39), (10, .int x40), (11, .int x42), (12, .int x43)] [.int x111, .int x112, .int x113]) hf ?_ ?_
                  · intro x111 x112 x113 h114 n9 hf
                    refine z_icmp_ne (tgt := 184) C dL_marks_153 (by decide) hf (fun hf => ?_) (fun hf => ?_)
                    · exact kJ107 _ _ _ hf
                    · refine z_join (P := fun J => ∀ (x116 : Int32) (n9 : Nat), J x116 = some (rv, rh, n9) → zW X 13 Z n9 (6 * n9) false hi h114 168 [(0, .ref x30), (1, .int x31), (2, .int x36), (3, .int x37), (4, .int x32), (6, .int x33), (7, .int x34), (8, .int x35), (9, .int x39), (10, .int x40), (11, .int x42), (12, .int x43)] [.int x116]) hf ?_ ?_
                      · intro x116 n9 hf
                        refine z_join (P := fun J => ∀ (x118 : Int32) (n9 : Nat), J x118 = some (rv, rh, n9) → zW X 13 Z n9 (6 * n9) false hi h114 180 [(0, .ref x30), (1, .int x31), (2, .int x36), (3, .int x37), (4, .int x32), (6, .int x33), (7, .int x34), (8, .int x35), (9, .int x39), (10, .int x40), (11, .int x42), (12, .int x43)] [.int x118]) hf ?_ ?_
                        · intro x118 n9 hf
                          refine z_iconst C (v := 1) dL_marks_180 (by decide) ?_
                          refine z_goto (tgt := 185) C dL_marks_181 (by decide) ?_
                          exact kJ55 _ _ _ _ hf
                        · intro J119 kJ119 hf
                          refine z_iload C dL_marks_168 11 rfl ?_
                          refine z_iconst C (v := 4) dL_marks_170 (by decide) ?_
                          refine z_icmp_ne (tgt := 180) C dL_marks_171 (by decide) hf (fun hf => ?_) (fun hf => ?_)
                          · exact kJ119 _ _ hf
                          · refine z_iload C dL_marks_174 7 rfl ?_
                            refine z_iconst C (v := 2) dL_marks_176 (by decide) ?_
                            refine z_icmp_ne (tgt := 184) C dL_marks_177 (by decide) hf (fun hf => ?_) (fun hf => ?_)
                            · exact kJ107 _ _ _ hf
                            · exact kJ119 _ _ hf
                      · intro J117 kJ117 hf
                        refine z_iload C dL_marks_156 11 rfl ?_
                        refine z_iconst C (v := 3) dL_marks_158 (by decide) ?_
                        refine z_icmp_ne (tgt := 168) C dL_marks_159 (by decide) hf (fun hf => ?_) (fun hf => ?_)
                        · exact kJ117 _ _ hf
                        · refine z_iload C dL_marks_162 7 rfl ?_
                          refine z_iconst C (v := 1) dL_marks_164 (by decide) ?_
                          refine z_icmp_ne (tgt := 184) C dL_marks_165 (by decide) hf (fun hf => ?_) (fun hf => ?_)
                          · exact kJ107 _ _ _ hf
                          · exact kJ117 _ _ hf
                  · intro J115 kJ115 hf
                    refine z_aload_n C dL_marks_131 0 rfl rfl ?_
                    refine z_iconst C (v := 5) dL_marks_132 (by decide) ?_
                    refine z_iload C dL_marks_133 6 rfl ?_
                    refine z_iload C dL_marks_135 5 rfl ?_
                    refine z_iload C dL_marks_137 9 rfl ?_
                    refine z_iconst C (v := 3) dL_marks_139 (by decide) ?_
                    obtain ⟨x121, h122, m123, n9, g120, hf, e9⟩ := zclE hf
                    refine z_callL (kc' := n9) (ks' := 6 * n9) CL (ML_call (xl X) CL.2.2.2 (xD X) (xT X) (xlo X) hi g120) cw_L_174 ys_L_call dL_marks_140 rfl ⟨Nat.le_of_ble_eq_true rfl, Nat.le_of_ble_eq_true rfl⟩ ⟨by show m123 + _ = _; omega, by show 6 * m123 + _ = _; omega⟩ (Nat.le_of_ble_eq_true rfl) (st := [.int x108, .int x109]) rfl ?_
                    refine z_bipush C (v := (-9 : Int32)) dL_marks_143 (by decide) ?_
                    refine z_icmp_eq (tgt := 152) C dL_marks_145 (by decide) hf (fun hf => ?_) (fun hf => ?_)
                    · refine z_iconst C (v := 0) dL_marks_152 (by decide) ?_
                      exact kJ115 _ _ _ _ _ hf
                    · refine z_iconst C (v := 1) dL_marks_148 (by decide) ?_
                      refine z_goto (tgt := 153) C dL_marks_149 (by decide) ?_
                      exact kJ115 _ _ _ _ _ hf
                · intro J110 kJ110 hf
                  refine z_iload C dL_marks_120 11 rfl ?_
                  refine z_iconst C (v := 1) dL_marks_122 (by decide) ?_
                  refine z_icmp_ne (tgt := 130) C dL_marks_123 (by decide) hf (fun hf => ?_) (fun hf => ?_)
                  · refine z_iconst C (v := 0) dL_marks_130 (by decide) ?_
                    exact kJ110 _ _ _ hf
                  · refine z_iconst C (v := 1) dL_marks_126 (by decide) ?_
                    refine z_goto (tgt := 131) C dL_marks_127 (by decide) ?_
                    exact kJ110 _ _ _ hf
        · intro J51 kJ51 hf
          refine z_iload C dL_marks_106 11 rfl ?_
          refine z_iconst C (v := 5) dL_marks_108 (by decide) ?_
          refine z_icmp_ne (tgt := 116) C dL_marks_109 (by decide) hf (fun hf => ?_) (fun hf => ?_)
          · refine z_iconst C (v := 0) dL_marks_116 (by decide) ?_
            exact kJ51 _ _ _ _ hf
          · refine z_iconst C (v := 1) dL_marks_112 (by decide) ?_
            refine z_goto (tgt := 117) C dL_marks_113 (by decide) ?_
            exact kJ51 _ _ _ _ hf
      · intro J47 kJ47 hf
        refine z_aload_n C dL_marks_64 0 rfl rfl ?_
        refine z_iconst C (v := 5) dL_marks_65 (by decide) ?_
        refine z_iload C dL_marks_66 7 rfl ?_
        refine z_iload C dL_marks_68 6 rfl ?_
        refine z_iload C dL_marks_70 10 rfl ?_
        refine z_iconst C (v := 4) dL_marks_72 (by decide) ?_
        obtain ⟨x125, h126, m127, n9, g124, hf, e9⟩ := zclE hf
        refine z_callL (kc' := n9) (ks' := 6 * n9) CL (ML_call (xl X) CL.2.2.2 (xD X) (xT X) (xlo X) hi g124) cw_L_174 ys_L_call dL_marks_73 rfl ⟨Nat.le_of_ble_eq_true rfl, Nat.le_of_ble_eq_true rfl⟩ ⟨by show m127 + _ = _; omega, by show 6 * m127 + _ = _; omega⟩ (Nat.le_of_ble_eq_true rfl) (st := []) rfl ?_
        refine z_istore C dL_marks_76 (by decide) (lv' := [(11, .int x125), (0, .ref x30), (1, .int x31), (2, .int x36), (3, .int x37), (4, .int x32), (5, .int x38), (6, .int x33), (7, .int x34), (8, .int x35), (9, .int x39), (10, .int x40)]) rfl ?_
        refine z_aload_n C dL_marks_78 1 rfl rfl ?_
        refine z_iconst C (v := 5) dL_marks_79 (by decide) ?_
        refine z_iload C dL_marks_80 8 rfl ?_
        refine z_iload C dL_marks_82 7 rfl ?_
        refine z_iload C dL_marks_84 11 rfl ?_
        refine z_iconst C (v := 5) dL_marks_86 (by decide) ?_
        obtain ⟨x129, h130, m131, n9, g128, hf, e9⟩ := zclE hf
        refine z_callL (kc' := n9) (ks' := 6 * n9) CL (ML_call (xl X) CL.2.2.2 (xD X) (xT X) (xlo X) hi g128) cw_L_174 ys_L_call dL_marks_87 rfl ⟨Nat.le_of_ble_eq_true rfl, Nat.le_of_ble_eq_true rfl⟩ ⟨by show m131 + _ = _; omega, by show 6 * m131 + _ = _; omega⟩ (Nat.le_of_ble_eq_true rfl) (st := []) rfl ?_
        refine z_istore C dL_marks_90 (by decide) (lv' := [(12, .int x129), (11, .int x125), (0, .ref x30), (1, .int x31), (2, .int x36), (3, .int x37), (4, .int x32), (5, .int x38), (6, .int x33), (7, .int x34), (8, .int x35), (9, .int x39), (10, .int x40)]) rfl ?_
        refine z_iload C dL_marks_92 7 rfl ?_
        refine z_iload C dL_marks_94 1 rfl ?_
        refine z_bipush C (v := (-9 : Int32)) dL_marks_96 (by decide) ?_
        refine z_icmp_ne (tgt := 105) C dL_marks_98 (by decide) hf (fun hf => ?_) (fun hf => ?_)
        · refine z_iconst C (v := 0) dL_marks_105 (by decide) ?_
          refine z_sub [2, 3, 4, 5, 6, 8, 9, 10, 11, 12, 1, 0] rfl ?_
          exact kJ47 _ _ _ _ _ _ hf
        · refine z_iconst C (v := 1) dL_marks_101 (by decide) ?_
          refine z_goto (tgt := 106) C dL_marks_102 (by decide) ?_
          refine z_sub [2, 3, 4, 5, 6, 8, 9, 10, 11, 12, 1, 0] rfl ?_
          exact kJ47 _ _ _ _ _ _ hf
def LL_marks_352 {ρ : Type} (T : zT) (x137 : Nat) (x138 : Int32) (x139 : Int32) (x140 : Int32) (x141 : Int32) (x142 : Int32) (x143 : Int32) (x144 : Int32) (x145 : Int32) (K0 : Int32 → zH → Option (ρ × zH × Nat)) : Nat → Int32 → Int32 → zH → Option (ρ × zH × Nat)
  | 0, _, _, _ => none
  | k + 1, x146, x147, h148 => if 2 ≤ x147 then (K0 x146 h148) else (zJ (fun (x149 : Int32) (x150 : Int32) (h151 : zH) => zJ (fun (x153 : Int32) (x154 : Int32) (x155 : Int32) => zJ (fun (x157 : Int32) (x158 : Int32) => LL_marks_352 T x137 x138 x139 x140 x141 x142 x143 x144 x145 K0 k (x158 &&& x157) (x147 + 1) h151) (fun J159 => if x154 = x153 then (J159 1 x155) else (J159 0 x155))) (fun J156 => if ((x145 >>> (x147 &&& 31)) &&& 1) = 0 then (J156 1 x149 x150) else (J156 0 x149 x150))) (fun J152 => zcl (FL_call T x137 8 x147 x143 x142 0 h148) fun x161 h162 => if x161 = (-9 : Int32) then (J152 1 x146 h162) else (J152 0 x146 h162)))
set_option maxHeartbeats 4000000 in
set_option maxRecDepth 100000 in
theorem LL_marks_352_ok {X : zX} (CL : zCL X cL_marks 13 RL "marks" (some .boolean) 11 241) {Z : State → Prop} {hi : Nat} {ρ : Type} {rv : ρ} {rh : zH} {x137 : Nat} {x138 : Int32} {x139 : Int32} {x140 : Int32} {x141 : Int32} {x142 : Int32} {x143 : Int32} {x144 : Int32} {x145 : Int32} {K0 : Int32 → zH → Option (ρ × zH × Nat)} (hK0 : ∀ (y5 : Int32) (g9 : zH) (n9 : Nat), K0 y5 g9 = some (rv, rh, n9) → zW X 13 Z n9 (6 * n9) false hi g9 415 [(0, .ref x137), (1, .int x138), (2, .int x139), (3, .int x140), (4, .int x141), (5, .int y5), (6, .int x142), (7, .int x143), (8, .int x144)] []) : ∀ (k : Nat) (x146 : Int32) (x147 : Int32) (h148 : zH) (n9 : Nat), LL_marks_352 (xT X) x137 x138 x139 x140 x141 x142 x143 x144 x145 K0 k x146 x147 h148 = some (rv, rh, n9) → zW X 13 Z n9 (6 * n9) false hi h148 352 [(0, .ref x137), (1, .int x138), (2, .int x139), (3, .int x140), (4, .int x141), (5, .int x146), (6, .int x142), (7, .int x143), (8, .int x144), (9, .int x145), (10, .int x147)] [] := by
  have C := CL.1
  intro k
  induction k with
  | zero =>
    intro x146 x147 h148 n9 hf
    have hf : none = some (rv, rh, n9) := hf
    cases hf
  | succ k ih =>
    intro x146 x147 h148 n9 hf
    rw [LL_marks_352.eq_2] at hf
    refine z_iload C dL_marks_352 10 rfl ?_
    refine z_iconst C (v := 2) dL_marks_354 (by decide) ?_
    refine z_icmp_ge (tgt := 415) C dL_marks_355 (by decide) hf (fun hf => ?_) (fun hf => ?_)
    · refine z_sub [0, 1, 2, 3, 4, 5, 6, 7, 8] rfl ?_
      exact hK0 _ _ _ hf
    · refine z_join (P := fun J => ∀ (x149 : Int32) (x150 : Int32) (h151 : zH) (n9 : Nat), J x149 x150 h151 = some (rv, rh, n9) → zW X 13 Z n9 (6 * n9) false hi h151 383 [(0, .ref x137), (1, .int x138), (2, .int x139), (3, .int x140), (4, .int x141), (6, .int x142), (7, .int x143), (8, .int x144), (9, .int x145), (10, .int x147)] [.int x149, .int x150]) hf ?_ ?_
      · intro x149 x150 h151 n9 hf
        refine z_join (P := fun J => ∀ (x153 : Int32) (x154 : Int32) (x155 : Int32) (n9 : Nat), J x153 x154 x155 = some (rv, rh, n9) → zW X 13 Z n9 (6 * n9) false hi h151 398 [(0, .ref x137), (1, .int x138), (2, .int x139), (3, .int x140), (4, .int x141), (6, .int x142), (7, .int x143), (8, .int x144), (9, .int x145), (10, .int x147)] [.int x153, .int x154, .int x155]) hf ?_ ?_
        · intro x153 x154 x155 n9 hf
          refine z_join (P := fun J => ∀ (x157 : Int32) (x158 : Int32) (n9 : Nat), J x157 x158 = some (rv, rh, n9) → zW X 13 Z n9 (6 * n9) false hi h151 406 [(0, .ref x137), (1, .int x138), (2, .int x139), (3, .int x140), (4, .int x141), (6, .int x142), (7, .int x143), (8, .int x144), (9, .int x145), (10, .int x147)] [.int x157, .int x158]) hf ?_ ?_
          · intro x157 x158 n9 hf
            refine z_iand C dL_marks_406 ?_
            refine z_istore C dL_marks_407 (by decide) (lv' := [(5, .int (x158 &&& x157)), (0, .ref x137), (1, .int x138), (2, .int x139), (3, .int x140), (4, .int x141), (6, .int x142), (7, .int x143), (8, .int x144), (9, .int x145), (10, .int x147)]) rfl ?_
            refine z_iinc C dL_marks_409 (k := 10) (d := 1) rfl (by decide) (by decide) (lv' := [(10, .int (x147 + 1)), (5, .int (x158 &&& x157)), (0, .ref x137), (1, .int x138), (2, .int x139), (3, .int x140), (4, .int x141), (6, .int x142), (7, .int x143), (8, .int x144), (9, .int x145)]) rfl ?_
            refine z_goto (tgt := 352) C dL_marks_412 (by decide) ?_
            refine z_sub [2, 3, 4, 5, 6, 1, 7, 8, 9, 10, 0] rfl ?_
            exact ih _ _ _ _ hf
          · intro J159 kJ159 hf
            refine z_icmp_ne (tgt := 405) C dL_marks_398 (by decide) hf (fun hf => ?_) (fun hf => ?_)
            · refine z_iconst C (v := 0) dL_marks_405 (by decide) ?_
              exact kJ159 _ _ _ hf
            · refine z_iconst C (v := 1) dL_marks_401 (by decide) ?_
              refine z_goto (tgt := 406) C dL_marks_402 (by decide) ?_
              exact kJ159 _ _ _ hf
        · intro J156 kJ156 hf
          refine z_iload C dL_marks_383 8 rfl ?_
          refine z_iload C dL_marks_385 9 rfl ?_
          refine z_ishr C dL_marks_387 ?_
          refine z_iconst C (v := 1) dL_marks_388 (by decide) ?_
          refine z_iand C dL_marks_389 ?_
          refine z_if_ne (tgt := 397) C dL_marks_390 (by decide) hf (fun hf => ?_) (fun hf => ?_)
          · refine z_iconst C (v := 0) dL_marks_397 (by decide) ?_
            exact kJ156 _ _ _ _ hf
          · refine z_iconst C (v := 1) dL_marks_393 (by decide) ?_
            refine z_goto (tgt := 398) C dL_marks_394 (by decide) ?_
            exact kJ156 _ _ _ _ hf
      · intro J152 kJ152 hf
        refine z_iload C dL_marks_358 5 rfl ?_
        refine z_aload_n C dL_marks_360 0 rfl rfl ?_
        refine z_bipush C (v := 8) dL_marks_361 (by decide) ?_
        refine z_iload C dL_marks_363 10 rfl ?_
        refine z_iload C dL_marks_365 7 rfl ?_
        refine z_iload C dL_marks_367 6 rfl ?_
        refine z_iconst C (v := 0) dL_marks_369 (by decide) ?_
        obtain ⟨x161, h162, m163, n9, g160, hf, e9⟩ := zclE hf
        refine z_callL (kc' := n9) (ks' := 6 * n9) CL (ML_call (xl X) CL.2.2.2 (xD X) (xT X) (xlo X) hi g160) cw_L_174 ys_L_call dL_marks_370 rfl ⟨Nat.le_of_ble_eq_true rfl, Nat.le_of_ble_eq_true rfl⟩ ⟨by show m163 + _ = _; omega, by show 6 * m163 + _ = _; omega⟩ (Nat.le_of_ble_eq_true rfl) (st := [.int x146]) rfl ?_
        refine z_bipush C (v := (-9 : Int32)) dL_marks_373 (by decide) ?_
        refine z_icmp_ne (tgt := 382) C dL_marks_375 (by decide) hf (fun hf => ?_) (fun hf => ?_)
        · refine z_iconst C (v := 0) dL_marks_382 (by decide) ?_
          refine z_sub [0, 1, 2, 3, 4, 6, 7, 8, 9, 10] rfl ?_
          exact kJ152 _ _ _ _ hf
        · refine z_iconst C (v := 1) dL_marks_378 (by decide) ?_
          refine z_goto (tgt := 383) C dL_marks_379 (by decide) ?_
          refine z_sub [0, 1, 2, 3, 4, 6, 7, 8, 9, 10] rfl ?_
          exact kJ152 _ _ _ _ hf
def LL_marks_28 {ρ : Type} (T : zT) (x13 : Nat) (x14 : Int32) (K0 : Int32 → Int32 → Int32 → Int32 → Int32 → zH → Option (ρ × zH × Nat)) : Nat → Int32 → Int32 → Int32 → Int32 → Int32 → Int32 → zH → Option (ρ × zH × Nat)
  | 0, _, _, _, _, _, _, _ => none
  | k + 1, x15, x16, x17, x18, x19, x20, h21 => zcl (FL_about T x13 0 h21) fun x23 h24 => if x23 ≤ x20 then (K0 x15 x16 x17 x18 x19 h24) else (zcl (FL_call T x13 4 x20 x14 0 0 h24) fun x27 h28 => LL_marks_57 T x13 x15 x18 x14 x20 x27 (fun (x132 : Int32) (x133 : Int32) (x134 : Int32) (x135 : Int32) (h136 : zH) => LL_marks_352 T x13 x15 x132 x133 x18 x14 x20 x27 x135 (fun (x164 : Int32) (h165 : zH) => zJ (fun (x166 : Int32) (x167 : Int32) (x168 : Int32) => LL_marks_28 T x13 x14 K0 k x166 x132 x133 (x168 + x167) x164 (x20 + 1) h165) (fun J169 => if x27 = 2 then (J169 (x15 + x27) 1 x18) else (J169 (x15 + x27) 0 x18))) FUEL x134 0 h136) FUEL x16 x17 x19 0 0 h28)
set_option maxHeartbeats 4000000 in
set_option maxRecDepth 100000 in
theorem LL_marks_28_ok {X : zX} (CL : zCL X cL_marks 13 RL "marks" (some .boolean) 11 241) {Z : State → Prop} {hi : Nat} {ρ : Type} {rv : ρ} {rh : zH} {x13 : Nat} {x14 : Int32} {K0 : Int32 → Int32 → Int32 → Int32 → Int32 → zH → Option (ρ × zH × Nat)} (hK0 : ∀ (y1 : Int32) (y2 : Int32) (y3 : Int32) (y4 : Int32) (y5 : Int32) (g9 : zH) (n9 : Nat), K0 y1 y2 y3 y4 y5 g9 = some (rv, rh, n9) → zW X 13 Z n9 (6 * n9) false hi g9 442 [(0, .ref x13), (1, .int y1), (2, .int y2), (3, .int y3), (4, .int y4), (5, .int y5), (6, .int x14)] []) : ∀ (k : Nat) (x15 : Int32) (x16 : Int32) (x17 : Int32) (x18 : Int32) (x19 : Int32) (x20 : Int32) (h21 : zH) (n9 : Nat), LL_marks_28 (xT X) x13 x14 K0 k x15 x16 x17 x18 x19 x20 h21 = some (rv, rh, n9) → zW X 13 Z n9 (6 * n9) false hi h21 28 [(0, .ref x13), (1, .int x15), (2, .int x16), (3, .int x17), (4, .int x18), (5, .int x19), (6, .int x14), (7, .int x20)] [] := by
  have C := CL.1
  intro k
  induction k with
  | zero =>
    intro x15 x16 x17 x18 x19 x20 h21 n9 hf
    have hf : none = some (rv, rh, n9) := hf
    cases hf
  | succ k ih =>
    intro x15 x16 x17 x18 x19 x20 h21 n9 hf
    rw [LL_marks_28.eq_2] at hf
    refine z_iload C dL_marks_28 7 rfl ?_
    refine z_aload_n C dL_marks_30 0 rfl rfl ?_
    refine z_iconst C (v := 0) dL_marks_31 (by decide) ?_
    obtain ⟨x23, h24, m25, n9, g22, hf, e9⟩ := zclE hf
    refine z_callL (kc' := n9) (ks' := 6 * n9) CL (ML_about (xl X) CL.2.2.2 (xD X) (xT X) (xlo X) hi g22) cw_L_180 ys_L_about dL_marks_32 rfl ⟨Nat.le_of_ble_eq_true rfl, Nat.le_of_ble_eq_true rfl⟩ ⟨by show m25 + _ = _; omega, by show 6 * m25 + _ = _; omega⟩ (Nat.le_of_ble_eq_true rfl) (st := [.int x20]) rfl ?_
    refine z_icmp_ge (tgt := 442) C dL_marks_35 (by decide) hf (fun hf => ?_) (fun hf => ?_)
    · refine z_sub [0, 1, 2, 3, 4, 5, 6] rfl ?_
      exact hK0 _ _ _ _ _ _ _ hf
    · refine z_aload_n C dL_marks_38 0 rfl rfl ?_
      refine z_iconst C (v := 4) dL_marks_39 (by decide) ?_
      refine z_iload C dL_marks_40 7 rfl ?_
      refine z_iload C dL_marks_42 6 rfl ?_
      refine z_iconst C (v := 0) dL_marks_44 (by decide) ?_
      refine z_iconst C (v := 0) dL_marks_45 (by decide) ?_
      obtain ⟨x27, h28, m29, n9, g26, hf, e9⟩ := zclE hf
      refine z_callL (kc' := n9) (ks' := 6 * n9) CL (ML_call (xl X) CL.2.2.2 (xD X) (xT X) (xlo X) hi g26) cw_L_174 ys_L_call dL_marks_46 rfl ⟨Nat.le_of_ble_eq_true rfl, Nat.le_of_ble_eq_true rfl⟩ ⟨by show m29 + _ = _; omega, by show 6 * m29 + _ = _; omega⟩ (Nat.le_of_ble_eq_true rfl) (st := []) rfl ?_
      refine z_istore C dL_marks_49 (by decide) (lv' := [(8, .int x27), (0, .ref x13), (1, .int x15), (2, .int x16), (3, .int x17), (4, .int x18), (5, .int x19), (6, .int x14), (7, .int x20)]) rfl ?_
      refine z_iconst C (v := 0) dL_marks_51 (by decide) ?_
      refine z_istore C dL_marks_52 (by decide) (lv' := [(9, .int 0), (8, .int x27), (0, .ref x13), (1, .int x15), (2, .int x16), (3, .int x17), (4, .int x18), (5, .int x19), (6, .int x14), (7, .int x20)]) rfl ?_
      refine z_iconst C (v := 0) dL_marks_54 (by decide) ?_
      refine z_istore C dL_marks_55 (by decide) (lv' := [(10, .int 0), (9, .int 0), (8, .int x27), (0, .ref x13), (1, .int x15), (2, .int x16), (3, .int x17), (4, .int x18), (5, .int x19), (6, .int x14), (7, .int x20)]) rfl ?_
      refine z_sub [3, 4, 5, 6, 7, 8, 9, 10, 2, 1, 0] rfl ?_
      refine LL_marks_57_ok CL ?_ FUEL _ _ _ _ _ _ _ hf
      · intro x132 x133 x134 x135 h136 n9 hf
        refine z_iconst C (v := 0) dL_marks_349 (by decide) ?_
        refine z_istore C dL_marks_350 (by decide) (lv' := [(10, .int 0), (0, .ref x13), (1, .int x15), (2, .int x132), (3, .int x133), (4, .int x18), (5, .int x134), (6, .int x14), (7, .int x20), (8, .int x27), (9, .int x135)]) rfl ?_
        refine z_sub [1, 2, 3, 4, 5, 6, 7, 8, 9, 10, 0] rfl ?_
        refine LL_marks_352_ok CL ?_ FUEL _ _ _ _ hf
        · intro x164 h165 n9 hf
          refine z_join (P := fun J => ∀ (x166 : Int32) (x167 : Int32) (x168 : Int32) (n9 : Nat), J x166 x167 x168 = some (rv, rh, n9) → zW X 13 Z n9 (6 * n9) false hi h165 433 [(0, .ref x13), (1, .int x166), (2, .int x132), (3, .int x133), (5, .int x164), (6, .int x14), (7, .int x20)] [.int x167, .int x168]) hf ?_ ?_
          · intro x166 x167 x168 n9 hf
            refine z_iadd C dL_marks_433 ?_
            refine z_istore C dL_marks_434 (by decide) (lv' := [(4, .int (x168 + x167)), (0, .ref x13), (1, .int x166), (2, .int x132), (3, .int x133), (5, .int x164), (6, .int x14), (7, .int x20)]) rfl ?_
            refine z_iinc C dL_marks_436 (k := 7) (d := 1) rfl (by decide) (by decide) (lv' := [(7, .int (x20 + 1)), (4, .int (x168 + x167)), (0, .ref x13), (1, .int x166), (2, .int x132), (3, .int x133), (5, .int x164), (6, .int x14)]) rfl ?_
            refine z_goto (tgt := 28) C dL_marks_439 (by decide) ?_
            refine z_sub [2, 3, 4, 5, 1, 6, 7, 0] rfl ?_
            exact ih _ _ _ _ _ _ _ _ hf
          · intro J169 kJ169 hf
            refine z_iload_n C dL_marks_415 1 rfl rfl ?_
            refine z_iload C dL_marks_416 8 rfl ?_
            refine z_iadd C dL_marks_418 ?_
            refine z_istore_n C dL_marks_419 rfl (by decide) (lv' := [(1, .int (x15 + x27)), (0, .ref x13), (2, .int x132), (3, .int x133), (4, .int x18), (5, .int x164), (6, .int x14), (7, .int x20), (8, .int x27)]) rfl ?_
            refine z_iload C dL_marks_420 4 rfl ?_
            refine z_iload C dL_marks_422 8 rfl ?_
            refine z_iconst C (v := 2) dL_marks_424 (by decide) ?_
            refine z_icmp_ne (tgt := 432) C dL_marks_425 (by decide) hf (fun hf => ?_) (fun hf => ?_)
            · refine z_iconst C (v := 0) dL_marks_432 (by decide) ?_
              refine z_sub [1, 0, 2, 3, 5, 6, 7] rfl ?_
              exact kJ169 _ _ _ _ hf
            · refine z_iconst C (v := 1) dL_marks_428 (by decide) ?_
              refine z_goto (tgt := 433) C dL_marks_429 (by decide) ?_
              refine z_sub [1, 0, 2, 3, 5, 6, 7] rfl ?_
              exact kJ169 _ _ _ _ hf
def LL_marks_15 {ρ : Type} (T : zT) (x1 : Nat) (K0 : Int32 → Int32 → Int32 → Int32 → Int32 → zH → Option (ρ × zH × Nat)) : Nat → Int32 → Int32 → Int32 → Int32 → Int32 → Int32 → zH → Option (ρ × zH × Nat)
  | 0, _, _, _, _, _, _, _ => none
  | k + 1, x2, x3, x4, x5, x6, x7, h8 => zcl (FL_about T x1 1 h8) fun x10 h11 => if x10 ≤ x7 then (K0 x2 x3 x4 x5 x6 h11) else (LL_marks_28 T x1 x7 (fun (x170 : Int32) (x171 : Int32) (x172 : Int32) (x173 : Int32) (x174 : Int32) (h175 : zH) => LL_marks_15 T x1 K0 k x170 x171 x172 x173 x174 (x7 + 1) h175) FUEL x2 x3 x4 x5 x6 0 h11)
set_option maxHeartbeats 4000000 in
set_option maxRecDepth 100000 in
theorem LL_marks_15_ok {X : zX} (CL : zCL X cL_marks 13 RL "marks" (some .boolean) 11 241) {Z : State → Prop} {hi : Nat} {ρ : Type} {rv : ρ} {rh : zH} {x1 : Nat} {K0 : Int32 → Int32 → Int32 → Int32 → Int32 → zH → Option (ρ × zH × Nat)} (hK0 : ∀ (y1 : Int32) (y2 : Int32) (y3 : Int32) (y4 : Int32) (y5 : Int32) (g9 : zH) (n9 : Nat), K0 y1 y2 y3 y4 y5 g9 = some (rv, rh, n9) → zW X 13 Z n9 (6 * n9) false hi g9 448 [(0, .ref x1), (1, .int y1), (2, .int y2), (3, .int y3), (4, .int y4), (5, .int y5)] []) : ∀ (k : Nat) (x2 : Int32) (x3 : Int32) (x4 : Int32) (x5 : Int32) (x6 : Int32) (x7 : Int32) (h8 : zH) (n9 : Nat), LL_marks_15 (xT X) x1 K0 k x2 x3 x4 x5 x6 x7 h8 = some (rv, rh, n9) → zW X 13 Z n9 (6 * n9) false hi h8 15 [(0, .ref x1), (1, .int x2), (2, .int x3), (3, .int x4), (4, .int x5), (5, .int x6), (6, .int x7)] [] := by
  have C := CL.1
  intro k
  induction k with
  | zero =>
    intro x2 x3 x4 x5 x6 x7 h8 n9 hf
    have hf : none = some (rv, rh, n9) := hf
    cases hf
  | succ k ih =>
    intro x2 x3 x4 x5 x6 x7 h8 n9 hf
    rw [LL_marks_15.eq_2] at hf
    refine z_iload C dL_marks_15 6 rfl ?_
    refine z_aload_n C dL_marks_17 0 rfl rfl ?_
    refine z_iconst C (v := 1) dL_marks_18 (by decide) ?_
    obtain ⟨x10, h11, m12, n9, g9, hf, e9⟩ := zclE hf
    refine z_callL (kc' := n9) (ks' := 6 * n9) CL (ML_about (xl X) CL.2.2.2 (xD X) (xT X) (xlo X) hi g9) cw_L_180 ys_L_about dL_marks_19 rfl ⟨Nat.le_of_ble_eq_true rfl, Nat.le_of_ble_eq_true rfl⟩ ⟨by show m12 + _ = _; omega, by show 6 * m12 + _ = _; omega⟩ (Nat.le_of_ble_eq_true rfl) (st := [.int x7]) rfl ?_
    refine z_icmp_ge (tgt := 448) C dL_marks_22 (by decide) hf (fun hf => ?_) (fun hf => ?_)
    · refine z_sub [0, 1, 2, 3, 4, 5] rfl ?_
      exact hK0 _ _ _ _ _ _ _ hf
    · refine z_iconst C (v := 0) dL_marks_25 (by decide) ?_
      refine z_istore C dL_marks_26 (by decide) (lv' := [(7, .int 0), (0, .ref x1), (1, .int x2), (2, .int x3), (3, .int x4), (4, .int x5), (5, .int x6), (6, .int x7)]) rfl ?_
      refine z_sub [1, 2, 3, 4, 5, 6, 7, 0] rfl ?_
      refine LL_marks_28_ok CL ?_ FUEL _ _ _ _ _ _ _ _ hf
      · intro x170 x171 x172 x173 x174 h175 n9 hf
        refine z_iinc C dL_marks_442 (k := 6) (d := 1) rfl (by decide) (by decide) (lv' := [(6, .int (x7 + 1)), (0, .ref x1), (1, .int x170), (2, .int x171), (3, .int x172), (4, .int x173), (5, .int x174)]) rfl ?_
        refine z_goto (tgt := 15) C dL_marks_445 (by decide) ?_
        refine z_sub [1, 2, 3, 4, 5, 6, 0] rfl ?_
        exact ih _ _ _ _ _ _ _ _ hf
def FL_marks (T : zT) (p0 : Nat) (h : zH) : Option (Int32 × zH × Nat) := LL_marks_15 T p0 (fun (x176 : Int32) (x177 : Int32) (x178 : Int32) (x179 : Int32) (x180 : Int32) (h181 : zH) => zJ (fun (x182 : Int32) (h183 : zH) => if x182 = 0 ∨ x182 = 1 then some (x182, h183, 0) else none) (fun J184 => zJ (fun (h185 : zH) => J184 0 h185) (fun J186 => if x180 = 0 then (J186 h181) else (zcl (FL_about T p0 2 h181) fun x188 h189 => if x176 = x188 then (zcl (FL_about T p0 8 h189) fun x192 h193 => zcl (FL_about T p0 9 h193) fun x196 h197 => if x177 = (x192 + x196) then (zcl (FL_about T p0 3 h197) fun x200 h201 => if x176 = (x177 + x200) then (zcl (FL_about T p0 4 h201) fun x204 h205 => if x178 = x204 then (zcl (FL_about T p0 7 h205) fun x208 h209 => if x179 = x208 then (J184 1 h209) else (J186 h209)) else (J186 h205)) else (J186 h201)) else (J186 h197)) else (J186 h189))))) FUEL 0 0 0 0 1 0 h
set_option maxHeartbeats 4000000 in
set_option maxRecDepth 100000 in
theorem BL_marks {X : zX} (CL : zCL X cL_marks 13 RL "marks" (some .boolean) 11 241) {hi : Nat} {h : zH} {p0 : Nat} {rv : Int32} {rh : zH} {n9 : Nat} (hf : FL_marks (xT X) p0 h = some (rv, rh, n9)) : zW X 13 (zZ X false (some (.int rv), hi, rh)) n9 (6 * n9) false hi h 0 [(0, .ref p0)] [] := by
  have C := CL.1
  unfold FL_marks at hf
  refine z_iconst C (v := 0) dL_marks_0 (by decide) ?_
  refine z_istore_n C dL_marks_1 rfl (by decide) (lv' := [(1, .int 0), (0, .ref p0)]) rfl ?_
  refine z_iconst C (v := 0) dL_marks_2 (by decide) ?_
  refine z_istore_n C dL_marks_3 rfl (by decide) (lv' := [(2, .int 0), (1, .int 0), (0, .ref p0)]) rfl ?_
  refine z_iconst C (v := 0) dL_marks_4 (by decide) ?_
  refine z_istore_n C dL_marks_5 rfl (by decide) (lv' := [(3, .int 0), (2, .int 0), (1, .int 0), (0, .ref p0)]) rfl ?_
  refine z_iconst C (v := 0) dL_marks_6 (by decide) ?_
  refine z_istore C dL_marks_7 (by decide) (lv' := [(4, .int 0), (3, .int 0), (2, .int 0), (1, .int 0), (0, .ref p0)]) rfl ?_
  refine z_iconst C (v := 1) dL_marks_9 (by decide) ?_
  refine z_istore C dL_marks_10 (by decide) (lv' := [(5, .int 1), (4, .int 0), (3, .int 0), (2, .int 0), (1, .int 0), (0, .ref p0)]) rfl ?_
  refine z_iconst C (v := 0) dL_marks_12 (by decide) ?_
  refine z_istore C dL_marks_13 (by decide) (lv' := [(6, .int 0), (5, .int 1), (4, .int 0), (3, .int 0), (2, .int 0), (1, .int 0), (0, .ref p0)]) rfl ?_
  refine z_sub [6, 5, 4, 3, 2, 1, 0] rfl ?_
  refine LL_marks_15_ok CL ?_ FUEL _ _ _ _ _ _ _ _ hf
  · intro x176 x177 x178 x179 x180 h181 n9 hf
    refine z_join (P := fun J => ∀ (x182 : Int32) (h183 : zH) (n9 : Nat), J x182 h183 = some (rv, rh, n9) → zW X 13 (zZ X false (some (.int rv), hi, rh)) n9 (6 * n9) false hi h183 515 [] [.int x182]) hf ?_ ?_
    · intro x182 h183 n9 hf
      refine z_ite hf (fun c hf => ?_) (fun c hf => nomatch hf)
      exact z_zreturn C dL_marks_515 c (by cases hf; rfl)
    · intro J184 kJ184 hf
      refine z_join (P := fun J => ∀ (h185 : zH) (n9 : Nat), J h185 = some (rv, rh, n9) → zW X 13 (zZ X false (some (.int rv), hi, rh)) n9 (6 * n9) false hi h185 514 [] []) hf ?_ ?_
      · intro h185 n9 hf
        refine z_iconst C (v := 0) dL_marks_514 (by decide) ?_
        exact kJ184 _ _ _ hf
      · intro J186 kJ186 hf
        refine z_iload C dL_marks_448 5 rfl ?_
        refine z_if_eq (tgt := 514) C dL_marks_450 (by decide) hf (fun hf => ?_) (fun hf => ?_)
        · refine z_sub [] rfl ?_
          exact kJ186 _ _ hf
        · refine z_iload_n C dL_marks_453 1 rfl rfl ?_
          refine z_aload_n C dL_marks_454 0 rfl rfl ?_
          refine z_iconst C (v := 2) dL_marks_455 (by decide) ?_
          obtain ⟨x188, h189, m190, n9, g187, hf, e9⟩ := zclE hf
          refine z_callL (kc' := n9) (ks' := 6 * n9) CL (ML_about (xl X) CL.2.2.2 (xD X) (xT X) (xlo X) hi g187) cw_L_180 ys_L_about dL_marks_456 rfl ⟨Nat.le_of_ble_eq_true rfl, Nat.le_of_ble_eq_true rfl⟩ ⟨by show m190 + _ = _; omega, by show 6 * m190 + _ = _; omega⟩ (Nat.le_of_ble_eq_true rfl) (st := [.int x176]) rfl ?_
          refine z_icmp_ne (tgt := 514) C dL_marks_459 (by decide) hf (fun hf => ?_) (fun hf => ?_)
          · refine z_sub [] rfl ?_
            exact kJ186 _ _ hf
          · refine z_iload_n C dL_marks_462 2 rfl rfl ?_
            refine z_aload_n C dL_marks_463 0 rfl rfl ?_
            refine z_bipush C (v := 8) dL_marks_464 (by decide) ?_
            obtain ⟨x192, h193, m194, n9, g191, hf, e9⟩ := zclE hf
            refine z_callL (kc' := n9) (ks' := 6 * n9) CL (ML_about (xl X) CL.2.2.2 (xD X) (xT X) (xlo X) hi g191) cw_L_180 ys_L_about dL_marks_466 rfl ⟨Nat.le_of_ble_eq_true rfl, Nat.le_of_ble_eq_true rfl⟩ ⟨by show m194 + _ = _; omega, by show 6 * m194 + _ = _; omega⟩ (Nat.le_of_ble_eq_true rfl) (st := [.int x177]) rfl ?_
            refine z_aload_n C dL_marks_469 0 rfl rfl ?_
            refine z_bipush C (v := 9) dL_marks_470 (by decide) ?_
            obtain ⟨x196, h197, m198, n9, g195, hf, e9⟩ := zclE hf
            refine z_callL (kc' := n9) (ks' := 6 * n9) CL (ML_about (xl X) CL.2.2.2 (xD X) (xT X) (xlo X) hi g195) cw_L_180 ys_L_about dL_marks_472 rfl ⟨Nat.le_of_ble_eq_true rfl, Nat.le_of_ble_eq_true rfl⟩ ⟨by show m198 + _ = _; omega, by show 6 * m198 + _ = _; omega⟩ (Nat.le_of_ble_eq_true rfl) (st := [.int x192, .int x177]) rfl ?_
            refine z_iadd C dL_marks_475 ?_
            refine z_icmp_ne (tgt := 514) C dL_marks_476 (by decide) hf (fun hf => ?_) (fun hf => ?_)
            · refine z_sub [] rfl ?_
              exact kJ186 _ _ hf
            · refine z_iload_n C dL_marks_479 1 rfl rfl ?_
              refine z_iload_n C dL_marks_480 2 rfl rfl ?_
              refine z_aload_n C dL_marks_481 0 rfl rfl ?_
              refine z_iconst C (v := 3) dL_marks_482 (by decide) ?_
              obtain ⟨x200, h201, m202, n9, g199, hf, e9⟩ := zclE hf
              refine z_callL (kc' := n9) (ks' := 6 * n9) CL (ML_about (xl X) CL.2.2.2 (xD X) (xT X) (xlo X) hi g199) cw_L_180 ys_L_about dL_marks_483 rfl ⟨Nat.le_of_ble_eq_true rfl, Nat.le_of_ble_eq_true rfl⟩ ⟨by show m202 + _ = _; omega, by show 6 * m202 + _ = _; omega⟩ (Nat.le_of_ble_eq_true rfl) (st := [.int x177, .int x176]) rfl ?_
              refine z_iadd C dL_marks_486 ?_
              refine z_icmp_ne (tgt := 514) C dL_marks_487 (by decide) hf (fun hf => ?_) (fun hf => ?_)
              · refine z_sub [] rfl ?_
                exact kJ186 _ _ hf
              · refine z_iload_n C dL_marks_490 3 rfl rfl ?_
                refine z_aload_n C dL_marks_491 0 rfl rfl ?_
                refine z_iconst C (v := 4) dL_marks_492 (by decide) ?_
                obtain ⟨x204, h205, m206, n9, g203, hf, e9⟩ := zclE hf
                refine z_callL (kc' := n9) (ks' := 6 * n9) CL (ML_about (xl X) CL.2.2.2 (xD X) (xT X) (xlo X) hi g203) cw_L_180 ys_L_about dL_marks_493 rfl ⟨Nat.le_of_ble_eq_true rfl, Nat.le_of_ble_eq_true rfl⟩ ⟨by show m206 + _ = _; omega, by show 6 * m206 + _ = _; omega⟩ (Nat.le_of_ble_eq_true rfl) (st := [.int x178]) rfl ?_
                refine z_icmp_ne (tgt := 514) C dL_marks_496 (by decide) hf (fun hf => ?_) (fun hf => ?_)
                · refine z_sub [] rfl ?_
                  exact kJ186 _ _ hf
                · refine z_iload C dL_marks_499 4 rfl ?_
                  refine z_aload_n C dL_marks_501 0 rfl rfl ?_
                  refine z_bipush C (v := 7) dL_marks_502 (by decide) ?_
                  obtain ⟨x208, h209, m210, n9, g207, hf, e9⟩ := zclE hf
                  refine z_callL (kc' := n9) (ks' := 6 * n9) CL (ML_about (xl X) CL.2.2.2 (xD X) (xT X) (xlo X) hi g207) cw_L_180 ys_L_about dL_marks_504 rfl ⟨Nat.le_of_ble_eq_true rfl, Nat.le_of_ble_eq_true rfl⟩ ⟨by show m210 + _ = _; omega, by show 6 * m210 + _ = _; omega⟩ (Nat.le_of_ble_eq_true rfl) (st := [.int x179]) rfl ?_
                  refine z_icmp_ne (tgt := 514) C dL_marks_507 (by decide) hf (fun hf => ?_) (fun hf => ?_)
                  · refine z_sub [] rfl ?_
                    exact kJ186 _ _ hf
                  · refine z_iconst C (v := 1) dL_marks_510 (by decide) ?_
                    refine z_goto (tgt := 515) C dL_marks_511 (by decide) ?_
                    refine z_sub [] rfl ?_
                    exact kJ184 _ _ _ hf
theorem ML_marks (l : Launch) (hl9 : l.stackTraces = false) (D : va_G) (T : zT) (lo hi : Nat) {h : zH} {p0 : Nat} {rv : Int32} {rh : zH} {n9 : Nat} (hf : FL_marks T p0 h = some (rv, rh, n9)) : zMW l yL_marks (.code yL_marks cL_marks 13 (some .boolean) :: TW) ({ frames := 11, cells := n9, slots := 6 * n9, locals := 241 } : Room) D T lo [.ref p0] hi h (some (.int rv), hi, rh) :=
  z_enterL hl9 (own := RL) (nm := "marks") (lv := [(0, .ref p0)]) (by decide +kernel) rfl rfl (Nat.le_of_ble_eq_true rfl) rfl (fun _ _ _ _ _ _ _ _ C => BL_marks C hf)
