theorem mw_473 : (Jvm.Cond.methodLink "CrossedSheetLaw" (186 : Nat) ({ cls := "CrossedSheetLaw", name := "sum", desc := "(LCrossedSheet;)J" } : Jvm.MethodName)) ∈ TW := TWm 473 (by decide +kernel) (by decide +kernel)
theorem mw_474 : (Jvm.Cond.static ({ cls := "CrossedSheetLaw", name := "sum", desc := "(LCrossedSheet;)J" } : Jvm.MethodName)) ∈ TW := TWm 474 (by decide +kernel) (by decide +kernel)
theorem mw_475 : (Jvm.Cond.code ({ cls := "CrossedSheetLaw", name := "sum", desc := "(LCrossedSheet;)J" } : Jvm.MethodName) method_30_code (7 : Nat) (Option.some Jvm.ClassFile.FieldType.long)) ∈ TW := TWm 475 (by decide +kernel) (by decide +kernel)
theorem mw_896 : (Jvm.Cond.methodLink "CrossedSheetLaw" (190 : Nat) ({ cls := "CrossedSheet", name := "greatestMargin", desc := "()I" } : Jvm.MethodName)) ∈ TW := TWm 896 (by decide +kernel) (by decide +kernel)
theorem mw_897 : (Jvm.Cond.instanceMethod ({ cls := "CrossedSheet", name := "greatestMargin", desc := "()I" } : Jvm.MethodName)) ∈ TW := TWm 897 (by decide +kernel) (by decide +kernel)
theorem mw_898 : (Jvm.Cond.selects "CrossedSheet" ({ cls := "CrossedSheet", name := "greatestMargin", desc := "()I" } : Jvm.MethodName) ({ cls := "CrossedSheet", name := "greatestMargin", desc := "()I" } : Jvm.MethodName)) ∈ TW := TWm 898 (by decide +kernel) (by decide +kernel)
theorem mw_899 : (Jvm.Cond.code ({ cls := "CrossedSheet", name := "greatestMargin", desc := "()I" } : Jvm.MethodName) prog_1_method_25_code (2 : Nat) (Option.some Jvm.ClassFile.FieldType.int)) ∈ TW := TWm 899 (by decide +kernel) (by decide +kernel)
theorem ys_L_sum : yL_sum.cls ≠ "java/lang/invoke/MethodHandle" ∧ yL_sum.cls ≠ "java/lang/invoke/VarHandle" ∧ (parseMethodDescriptor yL_sum.desc).map (fun d => d.parameters.length) = some 1 := by decide +kernel
theorem yv_X6_greatestMargin : yX6_greatestMargin.cls = RX6 ∧ yX6_greatestMargin.cls ≠ "java/lang/invoke/MethodHandle" ∧ yX6_greatestMargin.cls ≠ "java/lang/invoke/VarHandle" ∧ (parseMethodDescriptor yX6_greatestMargin.desc).map (fun d => d.parameters.length) = some 0 := by decide +kernel
theorem cw_L_186 : GoodIn TW (va_wsS RL 186 yL_sum (.code yL_sum cL_sum 7 (some .long) :: TW)) := zGS mw_473 mw_474 mw_25 mw_475
theorem cw_L_190 : GoodIn TW (wsV RL 190 RX6 yX6_greatestMargin (.code yX6_greatestMargin cX6_greatestMargin 2 (some .int) :: TW)) := zGV mw_896 mw_897 mw_898 mw_26 mw_899
theorem dL_best_0 : decode cL_best 0 = .ok (.aload_n 0, 1) := by decide +kernel
theorem dL_best_1 : decode cL_best 1 = .ok (.invokestatic 186, 3) := by decide +kernel
theorem dL_best_4 : decode cL_best 4 = .ok (.lstore_n 3, 1) := by decide +kernel
theorem dL_best_5 : decode cL_best 5 = .ok (.aload_n 0, 1) := by decide +kernel
theorem dL_best_6 : decode cL_best 6 = .ok (.iconst 3, 1) := by decide +kernel
theorem dL_best_7 : decode cL_best 7 = .ok (.invokestatic 180, 3) := by decide +kernel
theorem dL_best_10 : decode cL_best 10 = .ok (.istore 5, 2) := by decide +kernel
theorem dL_best_12 : decode cL_best 12 = .ok (.aload_n 0, 1) := by decide +kernel
theorem dL_best_13 : decode cL_best 13 = .ok (.iconst 3, 1) := by decide +kernel
theorem dL_best_14 : decode cL_best 14 = .ok (.iload_n 1, 1) := by decide +kernel
theorem dL_best_15 : decode cL_best 15 = .ok (.iconst 2, 1) := by decide +kernel
theorem dL_best_16 : decode cL_best 16 = .ok (.iconst 0, 1) := by decide +kernel
theorem dL_best_17 : decode cL_best 17 = .ok (.iconst 0, 1) := by decide +kernel
theorem dL_best_18 : decode cL_best 18 = .ok (.invokestatic 174, 3) := by decide +kernel
theorem dL_best_21 : decode cL_best 21 = .ok (.istore 6, 2) := by decide +kernel
theorem dL_best_23 : decode cL_best 23 = .ok (.aload_n 0, 1) := by decide +kernel
theorem dL_best_24 : decode cL_best 24 = .ok (.bipush 16, 2) := by decide +kernel
theorem dL_best_26 : decode cL_best 26 = .ok (.iload_n 1, 1) := by decide +kernel
theorem dL_best_27 : decode cL_best 27 = .ok (.iconst 0, 1) := by decide +kernel
theorem dL_best_28 : decode cL_best 28 = .ok (.iconst 0, 1) := by decide +kernel
theorem dL_best_29 : decode cL_best 29 = .ok (.iconst 0, 1) := by decide +kernel
theorem dL_best_30 : decode cL_best 30 = .ok (.invokestatic 174, 3) := by decide +kernel
theorem dL_best_33 : decode cL_best 33 = .ok (.istore 7, 2) := by decide +kernel
theorem dL_best_35 : decode cL_best 35 = .ok (.aload_n 0, 1) := by decide +kernel
theorem dL_best_36 : decode cL_best 36 = .ok (.bipush 11, 2) := by decide +kernel
theorem dL_best_38 : decode cL_best 38 = .ok (.iload_n 1, 1) := by decide +kernel
theorem dL_best_39 : decode cL_best 39 = .ok (.iload 7, 2) := by decide +kernel
theorem dL_best_41 : decode cL_best 41 = .ok (.bipush 10, 2) := by decide +kernel
theorem dL_best_43 : decode cL_best 43 = .ok (.idiv, 1) := by decide +kernel
theorem dL_best_44 : decode cL_best 44 = .ok (.iload 7, 2) := by decide +kernel
theorem dL_best_46 : decode cL_best 46 = .ok (.bipush 10, 2) := by decide +kernel
theorem dL_best_48 : decode cL_best 48 = .ok (.irem, 1) := by decide +kernel
theorem dL_best_49 : decode cL_best 49 = .ok (.iload 6, 2) := by decide +kernel
theorem dL_best_51 : decode cL_best 51 = .ok (.invokestatic 174, 3) := by decide +kernel
theorem dL_best_54 : decode cL_best 54 = .ok (.istore 8, 2) := by decide +kernel
theorem dL_best_56 : decode cL_best 56 = .ok (.iload 8, 2) := by decide +kernel
theorem dL_best_58 : decode cL_best 58 = .ok (.ifCond .lt 27, 3) := by decide +kernel
theorem dL_best_61 : decode cL_best 61 = .ok (.iload 8, 2) := by decide +kernel
theorem dL_best_63 : decode cL_best 63 = .ok (.iload 5, 2) := by decide +kernel
theorem dL_best_65 : decode cL_best 65 = .ok (.if_icmp .gt 20, 3) := by decide +kernel
theorem dL_best_68 : decode cL_best 68 = .ok (.aload_n 0, 1) := by decide +kernel
theorem dL_best_69 : decode cL_best 69 = .ok (.bipush 14, 2) := by decide +kernel
theorem dL_best_71 : decode cL_best 71 = .ok (.iconst 0, 1) := by decide +kernel
theorem dL_best_72 : decode cL_best 72 = .ok (.iconst 0, 1) := by decide +kernel
theorem dL_best_73 : decode cL_best 73 = .ok (.iconst 0, 1) := by decide +kernel
theorem dL_best_74 : decode cL_best 74 = .ok (.iconst 0, 1) := by decide +kernel
theorem dL_best_75 : decode cL_best 75 = .ok (.invokestatic 174, 3) := by decide +kernel
theorem dL_best_78 : decode cL_best 78 = .ok (.ifCond .lt 7, 3) := by decide +kernel
theorem dL_best_81 : decode cL_best 81 = .ok (.iconst 1, 1) := by decide +kernel
theorem dL_best_82 : decode cL_best 82 = .ok (.goto 4, 3) := by decide +kernel
theorem dL_best_85 : decode cL_best 85 = .ok (.iconst 0, 1) := by decide +kernel
theorem dL_best_86 : decode cL_best 86 = .ok (.istore 9, 2) := by decide +kernel
theorem dL_best_88 : decode cL_best 88 = .ok (.iload_n 2, 1) := by decide +kernel
theorem dL_best_89 : decode cL_best 89 = .ok (.iconst 4, 1) := by decide +kernel
theorem dL_best_90 : decode cL_best 90 = .ok (.irem, 1) := by decide +kernel
theorem dL_best_91 : decode cL_best 91 = .ok (.istore 10, 2) := by decide +kernel
theorem dL_best_93 : decode cL_best 93 = .ok (.iload_n 2, 1) := by decide +kernel
theorem dL_best_94 : decode cL_best 94 = .ok (.iconst 4, 1) := by decide +kernel
theorem dL_best_95 : decode cL_best 95 = .ok (.idiv, 1) := by decide +kernel
theorem dL_best_96 : decode cL_best 96 = .ok (.bipush 9, 2) := by decide +kernel
theorem dL_best_98 : decode cL_best 98 = .ok (.irem, 1) := by decide +kernel
theorem dL_best_99 : decode cL_best 99 = .ok (.istore 11, 2) := by decide +kernel
theorem dL_best_101 : decode cL_best 101 = .ok (.aload_n 0, 1) := by decide +kernel
theorem dL_best_102 : decode cL_best 102 = .ok (.bipush 11, 2) := by decide +kernel
theorem dL_best_104 : decode cL_best 104 = .ok (.iload_n 1, 1) := by decide +kernel
theorem dL_best_105 : decode cL_best 105 = .ok (.iload 10, 2) := by decide +kernel
theorem dL_best_107 : decode cL_best 107 = .ok (.iload 11, 2) := by decide +kernel
theorem dL_best_109 : decode cL_best 109 = .ok (.iload 6, 2) := by decide +kernel
theorem dL_best_111 : decode cL_best 111 = .ok (.invokestatic 174, 3) := by decide +kernel
theorem dL_best_114 : decode cL_best 114 = .ok (.istore 12, 2) := by decide +kernel
theorem dL_best_116 : decode cL_best 116 = .ok (.iload 9, 2) := by decide +kernel
theorem dL_best_118 : decode cL_best 118 = .ok (.iload 12, 2) := by decide +kernel
theorem dL_best_120 : decode cL_best 120 = .ok (.iload 8, 2) := by decide +kernel
theorem dL_best_122 : decode cL_best 122 = .ok (.if_icmp .gt 23, 3) := by decide +kernel
theorem dL_best_125 : decode cL_best 125 = .ok (.iload 12, 2) := by decide +kernel
theorem dL_best_127 : decode cL_best 127 = .ok (.iload 8, 2) := by decide +kernel
theorem dL_best_129 : decode cL_best 129 = .ok (.if_icmp .ne 33, 3) := by decide +kernel
theorem dL_best_132 : decode cL_best 132 = .ok (.iload 7, 2) := by decide +kernel
theorem dL_best_134 : decode cL_best 134 = .ok (.bipush 10, 2) := by decide +kernel
theorem dL_best_136 : decode cL_best 136 = .ok (.iload 10, 2) := by decide +kernel
theorem dL_best_138 : decode cL_best 138 = .ok (.imul, 1) := by decide +kernel
theorem dL_best_139 : decode cL_best 139 = .ok (.iload 11, 2) := by decide +kernel
theorem dL_best_141 : decode cL_best 141 = .ok (.iadd, 1) := by decide +kernel
theorem dL_best_142 : decode cL_best 142 = .ok (.if_icmp .gt 20, 3) := by decide +kernel
theorem dL_best_145 : decode cL_best 145 = .ok (.aload_n 0, 1) := by decide +kernel
theorem dL_best_146 : decode cL_best 146 = .ok (.bipush 14, 2) := by decide +kernel
theorem dL_best_148 : decode cL_best 148 = .ok (.iconst 0, 1) := by decide +kernel
theorem dL_best_149 : decode cL_best 149 = .ok (.iconst 0, 1) := by decide +kernel
theorem dL_best_150 : decode cL_best 150 = .ok (.iconst 0, 1) := by decide +kernel
theorem dL_best_151 : decode cL_best 151 = .ok (.iconst 0, 1) := by decide +kernel
theorem dL_best_152 : decode cL_best 152 = .ok (.invokestatic 174, 3) := by decide +kernel
theorem dL_best_155 : decode cL_best 155 = .ok (.ifCond .lt 7, 3) := by decide +kernel
theorem dL_best_158 : decode cL_best 158 = .ok (.iconst 1, 1) := by decide +kernel
theorem dL_best_159 : decode cL_best 159 = .ok (.goto 4, 3) := by decide +kernel
theorem dL_best_162 : decode cL_best 162 = .ok (.iconst 0, 1) := by decide +kernel
theorem dL_best_163 : decode cL_best 163 = .ok (.iand, 1) := by decide +kernel
theorem dL_best_164 : decode cL_best 164 = .ok (.istore 9, 2) := by decide +kernel
theorem dL_best_166 : decode cL_best 166 = .ok (.aload_n 0, 1) := by decide +kernel
theorem dL_best_167 : decode cL_best 167 = .ok (.invokevirtual 190, 3) := by decide +kernel
theorem dL_best_170 : decode cL_best 170 = .ok (.istore 13, 2) := by decide +kernel
theorem dL_best_172 : decode cL_best 172 = .ok (.iload 13, 2) := by decide +kernel
theorem dL_best_174 : decode cL_best 174 = .ok (.bipush (-9), 2) := by decide +kernel
theorem dL_best_176 : decode cL_best 176 = .ok (.if_icmp .eq 48, 3) := by decide +kernel
theorem dL_best_179 : decode cL_best 179 = .ok (.iload 9, 2) := by decide +kernel
theorem dL_best_181 : decode cL_best 181 = .ok (.aload_n 0, 1) := by decide +kernel
theorem dL_best_182 : decode cL_best 182 = .ok (.bipush 12, 2) := by decide +kernel
theorem dL_best_184 : decode cL_best 184 = .ok (.iload 13, 2) := by decide +kernel
theorem dL_best_186 : decode cL_best 186 = .ok (.iconst 0, 1) := by decide +kernel
theorem dL_best_187 : decode cL_best 187 = .ok (.iconst 0, 1) := by decide +kernel
theorem dL_best_188 : decode cL_best 188 = .ok (.iconst 0, 1) := by decide +kernel
theorem dL_best_189 : decode cL_best 189 = .ok (.invokestatic 174, 3) := by decide +kernel
theorem dL_best_192 : decode cL_best 192 = .ok (.ifCond .lt 28, 3) := by decide +kernel
theorem dL_best_195 : decode cL_best 195 = .ok (.aload_n 0, 1) := by decide +kernel
theorem dL_best_196 : decode cL_best 196 = .ok (.iconst 3, 1) := by decide +kernel
theorem dL_best_197 : decode cL_best 197 = .ok (.invokestatic 180, 3) := by decide +kernel
theorem dL_best_200 : decode cL_best 200 = .ok (.ifCond .ne 20, 3) := by decide +kernel
theorem dL_best_203 : decode cL_best 203 = .ok (.aload_n 0, 1) := by decide +kernel
theorem dL_best_204 : decode cL_best 204 = .ok (.bipush 14, 2) := by decide +kernel
theorem dL_best_206 : decode cL_best 206 = .ok (.iconst 0, 1) := by decide +kernel
theorem dL_best_207 : decode cL_best 207 = .ok (.iconst 0, 1) := by decide +kernel
theorem dL_best_208 : decode cL_best 208 = .ok (.iconst 0, 1) := by decide +kernel
theorem dL_best_209 : decode cL_best 209 = .ok (.iconst 0, 1) := by decide +kernel
theorem dL_best_210 : decode cL_best 210 = .ok (.invokestatic 174, 3) := by decide +kernel
theorem dL_best_213 : decode cL_best 213 = .ok (.ifCond .lt 7, 3) := by decide +kernel
theorem dL_best_216 : decode cL_best 216 = .ok (.iconst 1, 1) := by decide +kernel
theorem dL_best_217 : decode cL_best 217 = .ok (.goto 4, 3) := by decide +kernel
theorem dL_best_220 : decode cL_best 220 = .ok (.iconst 0, 1) := by decide +kernel
theorem dL_best_221 : decode cL_best 221 = .ok (.iand, 1) := by decide +kernel
theorem dL_best_222 : decode cL_best 222 = .ok (.istore 9, 2) := by decide +kernel
theorem dL_best_224 : decode cL_best 224 = .ok (.iload 13, 2) := by decide +kernel
theorem dL_best_226 : decode cL_best 226 = .ok (.bipush 9, 2) := by decide +kernel
theorem dL_best_228 : decode cL_best 228 = .ok (.if_icmp .eq 61, 3) := by decide +kernel
theorem dL_best_231 : decode cL_best 231 = .ok (.iload 9, 2) := by decide +kernel
theorem dL_best_233 : decode cL_best 233 = .ok (.aload_n 0, 1) := by decide +kernel
theorem dL_best_234 : decode cL_best 234 = .ok (.bipush 12, 2) := by decide +kernel
theorem dL_best_236 : decode cL_best 236 = .ok (.iload 13, 2) := by decide +kernel
theorem dL_best_238 : decode cL_best 238 = .ok (.bipush (-9), 2) := by decide +kernel
theorem dL_best_240 : decode cL_best 240 = .ok (.if_icmp .ne 7, 3) := by decide +kernel
theorem dL_best_243 : decode cL_best 243 = .ok (.iconst 0, 1) := by decide +kernel
theorem dL_best_244 : decode cL_best 244 = .ok (.goto 7, 3) := by decide +kernel
theorem dL_best_247 : decode cL_best 247 = .ok (.iload 13, 2) := by decide +kernel
theorem dL_best_249 : decode cL_best 249 = .ok (.iconst 1, 1) := by decide +kernel
theorem dL_best_250 : decode cL_best 250 = .ok (.iadd, 1) := by decide +kernel
theorem dL_best_251 : decode cL_best 251 = .ok (.iconst 0, 1) := by decide +kernel
theorem dL_best_252 : decode cL_best 252 = .ok (.iconst 0, 1) := by decide +kernel
theorem dL_best_253 : decode cL_best 253 = .ok (.iconst 0, 1) := by decide +kernel
theorem dL_best_254 : decode cL_best 254 = .ok (.invokestatic 174, 3) := by decide +kernel
theorem dL_best_257 : decode cL_best 257 = .ok (.ifCond .lt 28, 3) := by decide +kernel
theorem dL_best_260 : decode cL_best 260 = .ok (.aload_n 0, 1) := by decide +kernel
theorem dL_best_261 : decode cL_best 261 = .ok (.iconst 3, 1) := by decide +kernel
theorem dL_best_262 : decode cL_best 262 = .ok (.invokestatic 180, 3) := by decide +kernel
theorem dL_best_265 : decode cL_best 265 = .ok (.ifCond .le 20, 3) := by decide +kernel
theorem dL_best_268 : decode cL_best 268 = .ok (.aload_n 0, 1) := by decide +kernel
theorem dL_best_269 : decode cL_best 269 = .ok (.bipush 14, 2) := by decide +kernel
theorem dL_best_271 : decode cL_best 271 = .ok (.iconst 0, 1) := by decide +kernel
theorem dL_best_272 : decode cL_best 272 = .ok (.iconst 0, 1) := by decide +kernel
theorem dL_best_273 : decode cL_best 273 = .ok (.iconst 0, 1) := by decide +kernel
theorem dL_best_274 : decode cL_best 274 = .ok (.iconst 0, 1) := by decide +kernel
theorem dL_best_275 : decode cL_best 275 = .ok (.invokestatic 174, 3) := by decide +kernel
theorem dL_best_278 : decode cL_best 278 = .ok (.ifCond .lt 7, 3) := by decide +kernel
theorem dL_best_281 : decode cL_best 281 = .ok (.iconst 1, 1) := by decide +kernel
theorem dL_best_282 : decode cL_best 282 = .ok (.goto 4, 3) := by decide +kernel
theorem dL_best_285 : decode cL_best 285 = .ok (.iconst 0, 1) := by decide +kernel
theorem dL_best_286 : decode cL_best 286 = .ok (.iand, 1) := by decide +kernel
theorem dL_best_287 : decode cL_best 287 = .ok (.istore 9, 2) := by decide +kernel
theorem dL_best_289 : decode cL_best 289 = .ok (.aload_n 0, 1) := by decide +kernel
theorem dL_best_290 : decode cL_best 290 = .ok (.bipush 17, 2) := by decide +kernel
theorem dL_best_292 : decode cL_best 292 = .ok (.iload_n 1, 1) := by decide +kernel
theorem dL_best_293 : decode cL_best 293 = .ok (.iconst 0, 1) := by decide +kernel
theorem dL_best_294 : decode cL_best 294 = .ok (.iconst 0, 1) := by decide +kernel
theorem dL_best_295 : decode cL_best 295 = .ok (.iconst 0, 1) := by decide +kernel
theorem dL_best_296 : decode cL_best 296 = .ok (.invokestatic 174, 3) := by decide +kernel
theorem dL_best_299 : decode cL_best 299 = .ok (.istore 14, 2) := by decide +kernel
theorem dL_best_301 : decode cL_best 301 = .ok (.iload 14, 2) := by decide +kernel
theorem dL_best_303 : decode cL_best 303 = .ok (.bipush (-9), 2) := by decide +kernel
theorem dL_best_305 : decode cL_best 305 = .ok (.if_icmp .eq 77, 3) := by decide +kernel
theorem dL_best_308 : decode cL_best 308 = .ok (.aload_n 0, 1) := by decide +kernel
theorem dL_best_309 : decode cL_best 309 = .ok (.bipush 10, 2) := by decide +kernel
theorem dL_best_311 : decode cL_best 311 = .ok (.iload 14, 2) := by decide +kernel
theorem dL_best_313 : decode cL_best 313 = .ok (.bipush 100, 2) := by decide +kernel
theorem dL_best_315 : decode cL_best 315 = .ok (.idiv, 1) := by decide +kernel
theorem dL_best_316 : decode cL_best 316 = .ok (.iload 14, 2) := by decide +kernel
theorem dL_best_318 : decode cL_best 318 = .ok (.bipush 10, 2) := by decide +kernel
theorem dL_best_320 : decode cL_best 320 = .ok (.idiv, 1) := by decide +kernel
theorem dL_best_321 : decode cL_best 321 = .ok (.bipush 10, 2) := by decide +kernel
theorem dL_best_323 : decode cL_best 323 = .ok (.irem, 1) := by decide +kernel
theorem dL_best_324 : decode cL_best 324 = .ok (.iload 14, 2) := by decide +kernel
theorem dL_best_326 : decode cL_best 326 = .ok (.bipush 10, 2) := by decide +kernel
theorem dL_best_328 : decode cL_best 328 = .ok (.irem, 1) := by decide +kernel
theorem dL_best_329 : decode cL_best 329 = .ok (.iload_n 1, 1) := by decide +kernel
theorem dL_best_330 : decode cL_best 330 = .ok (.invokestatic 174, 3) := by decide +kernel
theorem dL_best_333 : decode cL_best 333 = .ok (.istore 15, 2) := by decide +kernel
theorem dL_best_335 : decode cL_best 335 = .ok (.iload 9, 2) := by decide +kernel
theorem dL_best_337 : decode cL_best 337 = .ok (.iload 15, 2) := by decide +kernel
theorem dL_best_339 : decode cL_best 339 = .ok (.ifCond .lt 39, 3) := by decide +kernel
theorem dL_best_342 : decode cL_best 342 = .ok (.iload 15, 2) := by decide +kernel
theorem dL_best_344 : decode cL_best 344 = .ok (.iload 5, 2) := by decide +kernel
theorem dL_best_346 : decode cL_best 346 = .ok (.if_icmp .gt 32, 3) := by decide +kernel
theorem dL_best_349 : decode cL_best 349 = .ok (.iload 5, 2) := by decide +kernel
theorem dL_best_351 : decode cL_best 351 = .ok (.ifCond .eq 10, 3) := by decide +kernel
theorem dL_best_354 : decode cL_best 354 = .ok (.iload 15, 2) := by decide +kernel
theorem dL_best_356 : decode cL_best 356 = .ok (.iload 5, 2) := by decide +kernel
theorem dL_best_358 : decode cL_best 358 = .ok (.if_icmp .ge 20, 3) := by decide +kernel
theorem dL_best_361 : decode cL_best 361 = .ok (.aload_n 0, 1) := by decide +kernel
theorem dL_best_362 : decode cL_best 362 = .ok (.bipush 14, 2) := by decide +kernel
theorem dL_best_364 : decode cL_best 364 = .ok (.iconst 0, 1) := by decide +kernel
theorem dL_best_365 : decode cL_best 365 = .ok (.iconst 0, 1) := by decide +kernel
theorem dL_best_366 : decode cL_best 366 = .ok (.iconst 0, 1) := by decide +kernel
theorem dL_best_367 : decode cL_best 367 = .ok (.iconst 0, 1) := by decide +kernel
theorem dL_best_368 : decode cL_best 368 = .ok (.invokestatic 174, 3) := by decide +kernel
theorem dL_best_371 : decode cL_best 371 = .ok (.ifCond .lt 7, 3) := by decide +kernel
theorem dL_best_374 : decode cL_best 374 = .ok (.iconst 1, 1) := by decide +kernel
theorem dL_best_375 : decode cL_best 375 = .ok (.goto 4, 3) := by decide +kernel
theorem dL_best_378 : decode cL_best 378 = .ok (.iconst 0, 1) := by decide +kernel
theorem dL_best_379 : decode cL_best 379 = .ok (.iand, 1) := by decide +kernel
theorem dL_best_380 : decode cL_best 380 = .ok (.istore 9, 2) := by decide +kernel
theorem dL_best_382 : decode cL_best 382 = .ok (.iload 9, 2) := by decide +kernel
theorem dL_best_384 : decode cL_best 384 = .ok (.ifCond .eq 16, 3) := by decide +kernel
theorem dL_best_387 : decode cL_best 387 = .ok (.aload_n 0, 1) := by decide +kernel
theorem dL_best_388 : decode cL_best 388 = .ok (.invokestatic 186, 3) := by decide +kernel
theorem dL_best_391 : decode cL_best 391 = .ok (.lload_n 3, 1) := by decide +kernel
theorem dL_best_392 : decode cL_best 392 = .ok (.lcmp, 1) := by decide +kernel
theorem dL_best_393 : decode cL_best 393 = .ok (.ifCond .ne 7, 3) := by decide +kernel
theorem dL_best_396 : decode cL_best 396 = .ok (.iconst 1, 1) := by decide +kernel
theorem dL_best_397 : decode cL_best 397 = .ok (.goto 4, 3) := by decide +kernel
theorem dL_best_400 : decode cL_best 400 = .ok (.iconst 0, 1) := by decide +kernel
theorem dL_best_401 : decode cL_best 401 = .ok (.ireturn, 1) := by decide +kernel
def FL_best (T : zT) (p0 : Nat) (p1 : Int32) (p2 : Int32) (h : zH) : Option (Int32 × zH × Nat) := zJ (fun (x1 : Int64) (x2 : Int32) (x3 : Int32) (x4 : Int32) (x5 : Int32) (x6 : Int32) (h7 : zH) => zJ (fun (x9 : Int32) (x10 : Int32) (h11 : zH) => zJ (fun (x13 : Int32) (x14 : Int32) (h15 : zH) => zJ (fun (x17 : Int32) (h18 : zH) => zJ (fun (x20 : Int32) (h21 : zH) => zJ (fun (x23 : Int32) (h24 : zH) => if x23 = 0 ∨ x23 = 1 then some (x23, h24, 0) else none) (fun J25 => zJ (fun (h26 : zH) => J25 0 h26) (fun J27 => if x20 = 0 then (J27 h21) else (zcl (FL_sum T p0 h21) fun x29 h30 => if (lg_cmp x29 x1) = 0 then (J25 1 h30) else (J27 h30))))) (fun J22 => zcl (FL_call T p0 17 p1 0 0 0 h18) fun x33 h34 => if x33 = (-9 : Int32) then (J22 x17 h34) else (zJ (fun (x36 : Int32) (x37 : Int32) (h38 : zH) => J22 (x37 &&& x36) h38) (fun J39 => zJ (fun (x40 : Int32) (h41 : zH) => J39 0 x40 h41) (fun J42 => (zdivI x33 100).bind fun x43 => (zdivI x33 10).bind fun x44 => (zremI x44 10).bind fun x45 => (zremI x33 10).bind fun x46 => zcl (FL_call T p0 10 x43 x45 x46 p1 h34) fun x48 h49 => if x48 < 0 then (J42 x17 h49) else (if x2 < x48 then (J42 x17 h49) else (zJ (fun (x51 : Int32) => zcl (FL_call T p0 14 0 0 0 0 h49) fun x54 h55 => if x54 < 0 then (J42 x51 h55) else (J39 1 x51 h55)) (fun J52 => if x2 = 0 then (J52 x17) else (if x2 ≤ x48 then (J42 x17 h49) else (J52 x17)))))))))) (fun J19 => if x14 = 9 then (J19 x13 h15) else (zJ (fun (x57 : Int32) (x58 : Int32) (x59 : Nat) (x60 : Int32) => zJ (fun (x62 : Int32) (x63 : Int32) (h64 : zH) => J19 (x63 &&& x62) h64) (fun J65 => zJ (fun (x66 : Int32) (h67 : zH) => J65 0 x66 h67) (fun J68 => zcl (FL_call T x59 x58 x57 0 0 0 h15) fun x70 h71 => if x70 < 0 then (J68 x60 h71) else (zcl (FL_about T p0 3 h71) fun x74 h75 => if x74 ≤ 0 then (J68 x60 h75) else (zcl (FL_call T p0 14 0 0 0 0 h75) fun x78 h79 => if x78 < 0 then (J68 x60 h79) else (J65 1 x60 h79)))))) (fun J61 => if x14 = (-9 : Int32) then (J61 0 12 p0 x13) else (J61 (x14 + 1) 12 p0 x13))))) (fun J16 => zb2 (FX6_greatestMargin T p0 h11) fun x82 h83 => if x82 = (-9 : Int32) then (J16 (x10 &&& x9) x82 h83) else (zJ (fun (x84 : Int32) (x85 : Int32) (h86 : zH) => J16 (x85 &&& x84) x82 h86) (fun J87 => zJ (fun (x88 : Int32) (h89 : zH) => J87 0 x88 h89) (fun J90 => zcl (FL_call T p0 12 x82 0 0 0 h83) fun x92 h93 => if x92 < 0 then (J90 (x10 &&& x9) h93) else (zcl (FL_about T p0 3 h93) fun x96 h97 => if x96 = 0 then (zcl (FL_call T p0 14 0 0 0 0 h97) fun x100 h101 => if x100 < 0 then (J90 (x10 &&& x9) h101) else (J87 1 (x10 &&& x9) h101)) else (J90 (x10 &&& x9) h97))))))) (fun J12 => zJ (fun (x103 : Int32) (h104 : zH) => J12 0 x103 h104) (fun J105 => zJ (fun (x106 : Int32) (h107 : zH) => zcl (FL_call T p0 14 0 0 0 0 h107) fun x110 h111 => if x110 < 0 then (J105 x106 h111) else (J12 1 x106 h111)) (fun J108 => (zremI p2 4).bind fun x113 => (zdivI p2 4).bind fun x114 => (zremI x114 9).bind fun x115 => zcl (FL_call T p0 11 p1 x113 x115 x3 h7) fun x117 h118 => if x5 < x117 then (J108 x6 h118) else (if x117 = x5 then (if ((10 * x113) + x115) < x4 then (J105 x6 h118) else (J108 x6 h118)) else (J105 x6 h118)))))) (fun J8 => zJ (fun (x120 : Int64) (x121 : Int32) (x122 : Int32) (x123 : Int32) (x124 : Int32) (h125 : zH) => J8 x120 x121 x122 x123 x124 0 h125) (fun J126 => zcl (FL_sum T p0 h) fun x128 h129 => zcl (FL_about T p0 3 h129) fun x132 h133 => zcl (FL_call T p0 3 p1 2 0 0 h133) fun x136 h137 => zcl (FL_call T p0 16 p1 0 0 0 h137) fun x140 h141 => (zdivI x140 10).bind fun x143 => (zremI x140 10).bind fun x144 => zcl (FL_call T p0 11 p1 x143 x144 x136 h141) fun x146 h147 => if x146 < 0 then (J126 x128 x132 x136 x140 x146 h147) else (if x132 < x146 then (J126 x128 x132 x136 x140 x146 h147) else (zcl (FL_call T p0 14 0 0 0 0 h147) fun x150 h151 => if x150 < 0 then (J126 x128 x132 x136 x140 x146 h151) else (J8 x128 x132 x136 x140 x146 1 h151)))))
set_option maxHeartbeats 4000000 in
set_option maxRecDepth 100000 in
theorem BL_best {X : zX} (CL : zCL X cL_best 16 RL "best" (some .boolean) 12 267) {hi : Nat} {h : zH} {p0 : Nat} {p1 : Int32} {p2 : Int32} {rv : Int32} {rh : zH} {n9 : Nat} (hf : FL_best (xT X) p0 p1 p2 h = some (rv, rh, n9)) : zW X 16 (zZ X false (some (.int rv), hi, rh)) n9 (6 * n9) false hi h 0 [(0, .ref p0), (1, .int p1), (2, .int p2)] [] := by
  have C := CL.1
  unfold FL_best at hf
  refine z_join (P := fun J => ∀ (x1 : Int64) (x2 : Int32) (x3 : Int32) (x4 : Int32) (x5 : Int32) (x6 : Int32) (h7 : zH) (n9 : Nat), J x1 x2 x3 x4 x5 x6 h7 = some (rv, rh, n9) → zW X 16 (zZ X false (some (.int rv), hi, rh)) n9 (6 * n9) false hi h7 86 [(0, .ref p0), (1, .int p1), (2, .int p2), (3, .long x1), (5, .int x2), (6, .int x3), (7, .int x4), (8, .int x5)] [.int x6]) hf ?_ ?_
  · intro x1 x2 x3 x4 x5 x6 h7 n9 hf
    refine z_join (P := fun J => ∀ (x9 : Int32) (x10 : Int32) (h11 : zH) (n9 : Nat), J x9 x10 h11 = some (rv, rh, n9) → zW X 16 (zZ X false (some (.int rv), hi, rh)) n9 (6 * n9) false hi h11 163 [(0, .ref p0), (1, .int p1), (3, .long x1), (5, .int x2)] [.int x9, .int x10]) hf ?_ ?_
    · intro x9 x10 h11 n9 hf
      refine z_join (P := fun J => ∀ (x13 : Int32) (x14 : Int32) (h15 : zH) (n9 : Nat), J x13 x14 h15 = some (rv, rh, n9) → zW X 16 (zZ X false (some (.int rv), hi, rh)) n9 (6 * n9) false hi h15 224 [(0, .ref p0), (1, .int p1), (3, .long x1), (5, .int x2), (9, .int x13), (13, .int x14)] []) hf ?_ ?_
      · intro x13 x14 h15 n9 hf
        refine z_join (P := fun J => ∀ (x17 : Int32) (h18 : zH) (n9 : Nat), J x17 h18 = some (rv, rh, n9) → zW X 16 (zZ X false (some (.int rv), hi, rh)) n9 (6 * n9) false hi h18 289 [(0, .ref p0), (1, .int p1), (3, .long x1), (5, .int x2), (9, .int x17)] []) hf ?_ ?_
        · intro x17 h18 n9 hf
          refine z_join (P := fun J => ∀ (x20 : Int32) (h21 : zH) (n9 : Nat), J x20 h21 = some (rv, rh, n9) → zW X 16 (zZ X false (some (.int rv), hi, rh)) n9 (6 * n9) false hi h21 382 [(0, .ref p0), (3, .long x1), (9, .int x20)] []) hf ?_ ?_
          · intro x20 h21 n9 hf
            refine z_join (P := fun J => ∀ (x23 : Int32) (h24 : zH) (n9 : Nat), J x23 h24 = some (rv, rh, n9) → zW X 16 (zZ X false (some (.int rv), hi, rh)) n9 (6 * n9) false hi h24 401 [] [.int x23]) hf ?_ ?_
            · intro x23 h24 n9 hf
              refine z_ite hf (fun c hf => ?_) (fun c hf => nomatch hf)
              exact z_zreturn C dL_best_401 c (by cases hf; rfl)
            · intro J25 kJ25 hf
              refine z_join (P := fun J => ∀ (h26 : zH) (n9 : Nat), J h26 = some (rv, rh, n9) → zW X 16 (zZ X false (some (.int rv), hi, rh)) n9 (6 * n9) false hi h26 400 [] []) hf ?_ ?_
              · intro h26 n9 hf
                refine z_iconst C (v := 0) dL_best_400 (by decide) ?_
                exact kJ25 _ _ _ hf
              · intro J27 kJ27 hf
                refine z_iload C dL_best_382 2 rfl ?_
                refine z_if_eq (tgt := 400) C dL_best_384 (by decide) hf (fun hf => ?_) (fun hf => ?_)
                · refine z_sub [] rfl ?_
                  exact kJ27 _ _ hf
                · refine z_aload_n C dL_best_387 0 rfl rfl ?_
                  obtain ⟨x29, h30, m31, n9, g28, hf, e9⟩ := zclE hf
                  refine z_callL (kc' := n9) (ks' := 6 * n9) CL (ML_sum (xl X) CL.2.2.2 (xD X) (xT X) (xlo X) hi g28) cw_L_186 ys_L_sum dL_best_388 rfl ⟨Nat.le_of_ble_eq_true rfl, Nat.le_of_ble_eq_true rfl⟩ ⟨by show m31 + _ = _; omega, by show 6 * m31 + _ = _; omega⟩ (Nat.le_of_ble_eq_true rfl) (st := []) rfl ?_
                  refine z_lload_n C dL_best_391 1 rfl rfl ?_
                  refine z_lcmp C dL_best_392 ?_
                  refine z_if_ne (tgt := 400) C dL_best_393 (by decide) hf (fun hf => ?_) (fun hf => ?_)
                  · refine z_sub [] rfl ?_
                    exact kJ27 _ _ hf
                  · refine z_iconst C (v := 1) dL_best_396 (by decide) ?_
                    refine z_goto (tgt := 401) C dL_best_397 (by decide) ?_
                    refine z_sub [] rfl ?_
                    exact kJ25 _ _ _ hf
          · intro J22 kJ22 hf
            refine z_aload_n C dL_best_289 0 rfl rfl ?_
            refine z_bipush C (v := 17) dL_best_290 (by decide) ?_
            refine z_iload_n C dL_best_292 1 rfl rfl ?_
            refine z_iconst C (v := 0) dL_best_293 (by decide) ?_
            refine z_iconst C (v := 0) dL_best_294 (by decide) ?_
            refine z_iconst C (v := 0) dL_best_295 (by decide) ?_
            obtain ⟨x33, h34, m35, n9, g32, hf, e9⟩ := zclE hf
            refine z_callL (kc' := n9) (ks' := 6 * n9) CL (ML_call (xl X) CL.2.2.2 (xD X) (xT X) (xlo X) hi g32) cw_L_174 ys_L_call dL_best_296 rfl ⟨Nat.le_of_ble_eq_true rfl, Nat.le_of_ble_eq_true rfl⟩ ⟨by show m35 + _ = _; omega, by show 6 * m35 + _ = _; omega⟩ (Nat.le_of_ble_eq_true rfl) (st := []) rfl ?_
            refine z_istore C dL_best_299 (by decide) (lv' := [(14, .int x33), (0, .ref p0), (1, .int p1), (3, .long x1), (5, .int x2), (9, .int x17)]) rfl ?_
            refine z_iload C dL_best_301 0 rfl ?_
            refine z_bipush C (v := (-9 : Int32)) dL_best_303 (by decide) ?_
            refine z_icmp_eq (tgt := 382) C dL_best_305 (by decide) hf (fun hf => ?_) (fun hf => ?_)
            · refine z_sub [1, 3, 5] rfl ?_
              exact kJ22 _ _ _ hf
            · refine z_join (P := fun J => ∀ (x36 : Int32) (x37 : Int32) (h38 : zH) (n9 : Nat), J x36 x37 h38 = some (rv, rh, n9) → zW X 16 (zZ X false (some (.int rv), hi, rh)) n9 (6 * n9) false hi h38 379 [(0, .ref p0), (3, .long x1)] [.int x36, .int x37]) hf ?_ ?_
              · intro x36 x37 h38 n9 hf
                refine z_iand C dL_best_379 ?_
                refine z_istore C dL_best_380 (by decide) (lv' := [(9, .int (x37 &&& x36)), (0, .ref p0), (3, .long x1)]) rfl ?_
                refine z_sub [1, 2, 0] rfl ?_
                exact kJ22 _ _ _ hf
              · intro J39 kJ39 hf
                refine z_join (P := fun J => ∀ (x40 : Int32) (h41 : zH) (n9 : Nat), J x40 h41 = some (rv, rh, n9) → zW X 16 (zZ X false (some (.int rv), hi, rh)) n9 (6 * n9) false hi h41 378 [(0, .ref p0), (3, .long x1)] [.int x40]) hf ?_ ?_
                · intro x40 h41 n9 hf
                  refine z_iconst C (v := 0) dL_best_378 (by decide) ?_
                  exact kJ39 _ _ _ _ hf
                · intro J42 kJ42 hf
                  refine z_aload_n C dL_best_308 1 rfl rfl ?_
                  refine z_bipush C (v := 10) dL_best_309 (by decide) ?_
                  refine z_iload C dL_best_311 0 rfl ?_
                  refine z_bipush C (v := 100) dL_best_313 (by decide) ?_
                  refine z_idiv C dL_best_315 hf (fun x43 _ hf => ?_)
                  refine z_iload C dL_best_316 0 rfl ?_
                  refine z_bipush C (v := 10) dL_best_318 (by decide) ?_
                  refine z_idiv C dL_best_320 hf (fun x44 _ hf => ?_)
                  refine z_bipush C (v := 10) dL_best_321 (by decide) ?_
                  refine z_irem C dL_best_323 hf (fun x45 _ hf => ?_)
                  refine z_iload C dL_best_324 0 rfl ?_
                  refine z_bipush C (v := 10) dL_best_326 (by decide) ?_
                  refine z_irem C dL_best_328 hf (fun x46 _ hf => ?_)
                  refine z_iload_n C dL_best_329 2 rfl rfl ?_
                  obtain ⟨x48, h49, m50, n9, g47, hf, e9⟩ := zclE hf
                  refine z_callL (kc' := n9) (ks' := 6 * n9) CL (ML_call (xl X) CL.2.2.2 (xD X) (xT X) (xlo X) hi g47) cw_L_174 ys_L_call dL_best_330 rfl ⟨Nat.le_of_ble_eq_true rfl, Nat.le_of_ble_eq_true rfl⟩ ⟨by show m50 + _ = _; omega, by show 6 * m50 + _ = _; omega⟩ (Nat.le_of_ble_eq_true rfl) (st := []) rfl ?_
                  refine z_istore C dL_best_333 (by decide) (lv' := [(15, .int x48), (14, .int x33), (0, .ref p0), (1, .int p1), (3, .long x1), (5, .int x2), (9, .int x17)]) rfl ?_
                  refine z_iload C dL_best_335 6 rfl ?_
                  refine z_iload C dL_best_337 0 rfl ?_
                  refine z_if_lt (tgt := 378) C dL_best_339 (by decide) hf (fun hf => ?_) (fun hf => ?_)
                  · refine z_sub [2, 4] rfl ?_
                    exact kJ42 _ _ _ hf
                  · refine z_iload C dL_best_342 0 rfl ?_
                    refine z_iload C dL_best_344 5 rfl ?_
                    refine z_icmp_gt (tgt := 378) C dL_best_346 (by decide) hf (fun hf => ?_) (fun hf => ?_)
                    · refine z_sub [2, 4] rfl ?_
                      exact kJ42 _ _ _ hf
                    · refine z_join (P := fun J => ∀ (x51 : Int32) (n9 : Nat), J x51 = some (rv, rh, n9) → zW X 16 (zZ X false (some (.int rv), hi, rh)) n9 (6 * n9) false hi h49 361 [(0, .ref p0), (3, .long x1)] [.int x51]) hf ?_ ?_
                      · intro x51 n9 hf
                        refine z_aload_n C dL_best_361 0 rfl rfl ?_
                        refine z_bipush C (v := 14) dL_best_362 (by decide) ?_
                        refine z_iconst C (v := 0) dL_best_364 (by decide) ?_
                        refine z_iconst C (v := 0) dL_best_365 (by decide) ?_
                        refine z_iconst C (v := 0) dL_best_366 (by decide) ?_
                        refine z_iconst C (v := 0) dL_best_367 (by decide) ?_
                        obtain ⟨x54, h55, m56, n9, g53, hf, e9⟩ := zclE hf
                        refine z_callL (kc' := n9) (ks' := 6 * n9) CL (ML_call (xl X) CL.2.2.2 (xD X) (xT X) (xlo X) hi g53) cw_L_174 ys_L_call dL_best_368 rfl ⟨Nat.le_of_ble_eq_true rfl, Nat.le_of_ble_eq_true rfl⟩ ⟨by show m56 + _ = _; omega, by show 6 * m56 + _ = _; omega⟩ (Nat.le_of_ble_eq_true rfl) (st := [.int x51]) rfl ?_
                        refine z_if_lt (tgt := 378) C dL_best_371 (by decide) hf (fun hf => ?_) (fun hf => ?_)
                        · exact kJ42 _ _ _ hf
                        · refine z_iconst C (v := 1) dL_best_374 (by decide) ?_
                          refine z_goto (tgt := 379) C dL_best_375 (by decide) ?_
                          exact kJ39 _ _ _ _ hf
                      · intro J52 kJ52 hf
                        refine z_iload C dL_best_349 5 rfl ?_
                        refine z_if_eq (tgt := 361) C dL_best_351 (by decide) hf (fun hf => ?_) (fun hf => ?_)
                        · refine z_sub [2, 4] rfl ?_
                          exact kJ52 _ _ hf
                        · refine z_iload C dL_best_354 0 rfl ?_
                          refine z_iload C dL_best_356 5 rfl ?_
                          refine z_icmp_ge (tgt := 378) C dL_best_358 (by decide) hf (fun hf => ?_) (fun hf => ?_)
                          · refine z_sub [2, 4] rfl ?_
                            exact kJ42 _ _ _ hf
                          · refine z_sub [2, 4] rfl ?_
                            exact kJ52 _ _ hf
        · intro J19 kJ19 hf
          refine z_iload C dL_best_224 5 rfl ?_
          refine z_bipush C (v := 9) dL_best_226 (by decide) ?_
          refine z_icmp_eq (tgt := 289) C dL_best_228 (by decide) hf (fun hf => ?_) (fun hf => ?_)
          · refine z_sub [0, 1, 2, 3, 4] rfl ?_
            exact kJ19 _ _ _ hf
          · refine z_join (P := fun J => ∀ (x57 : Int32) (x58 : Int32) (x59 : Nat) (x60 : Int32) (n9 : Nat), J x57 x58 x59 x60 = some (rv, rh, n9) → zW X 16 (zZ X false (some (.int rv), hi, rh)) n9 (6 * n9) false hi h15 251 [(0, .ref p0), (1, .int p1), (3, .long x1), (5, .int x2)] [.int x57, .int x58, .ref x59, .int x60]) hf ?_ ?_
            · intro x57 x58 x59 x60 n9 hf
              refine z_join (P := fun J => ∀ (x62 : Int32) (x63 : Int32) (h64 : zH) (n9 : Nat), J x62 x63 h64 = some (rv, rh, n9) → zW X 16 (zZ X false (some (.int rv), hi, rh)) n9 (6 * n9) false hi h64 286 [(0, .ref p0), (1, .int p1), (3, .long x1), (5, .int x2)] [.int x62, .int x63]) hf ?_ ?_
              · intro x62 x63 h64 n9 hf
                refine z_iand C dL_best_286 ?_
                refine z_istore C dL_best_287 (by decide) (lv' := [(9, .int (x63 &&& x62)), (0, .ref p0), (1, .int p1), (3, .long x1), (5, .int x2)]) rfl ?_
                refine z_sub [1, 2, 3, 4, 0] rfl ?_
                exact kJ19 _ _ _ hf
              · intro J65 kJ65 hf
                refine z_join (P := fun J => ∀ (x66 : Int32) (h67 : zH) (n9 : Nat), J x66 h67 = some (rv, rh, n9) → zW X 16 (zZ X false (some (.int rv), hi, rh)) n9 (6 * n9) false hi h67 285 [(0, .ref p0), (1, .int p1), (3, .long x1), (5, .int x2)] [.int x66]) hf ?_ ?_
                · intro x66 h67 n9 hf
                  refine z_iconst C (v := 0) dL_best_285 (by decide) ?_
                  exact kJ65 _ _ _ _ hf
                · intro J68 kJ68 hf
                  refine z_iconst C (v := 0) dL_best_251 (by decide) ?_
                  refine z_iconst C (v := 0) dL_best_252 (by decide) ?_
                  refine z_iconst C (v := 0) dL_best_253 (by decide) ?_
                  obtain ⟨x70, h71, m72, n9, g69, hf, e9⟩ := zclE hf
                  refine z_callL (kc' := n9) (ks' := 6 * n9) CL (ML_call (xl X) CL.2.2.2 (xD X) (xT X) (xlo X) hi g69) cw_L_174 ys_L_call dL_best_254 rfl ⟨Nat.le_of_ble_eq_true rfl, Nat.le_of_ble_eq_true rfl⟩ ⟨by show m72 + _ = _; omega, by show 6 * m72 + _ = _; omega⟩ (Nat.le_of_ble_eq_true rfl) (st := [.int x60]) rfl ?_
                  refine z_if_lt (tgt := 285) C dL_best_257 (by decide) hf (fun hf => ?_) (fun hf => ?_)
                  · exact kJ68 _ _ _ hf
                  · refine z_aload_n C dL_best_260 0 rfl rfl ?_
                    refine z_iconst C (v := 3) dL_best_261 (by decide) ?_
                    obtain ⟨x74, h75, m76, n9, g73, hf, e9⟩ := zclE hf
                    refine z_callL (kc' := n9) (ks' := 6 * n9) CL (ML_about (xl X) CL.2.2.2 (xD X) (xT X) (xlo X) hi g73) cw_L_180 ys_L_about dL_best_262 rfl ⟨Nat.le_of_ble_eq_true rfl, Nat.le_of_ble_eq_true rfl⟩ ⟨by show m76 + _ = _; omega, by show 6 * m76 + _ = _; omega⟩ (Nat.le_of_ble_eq_true rfl) (st := [.int x60]) rfl ?_
                    refine z_if_le (tgt := 285) C dL_best_265 (by decide) hf (fun hf => ?_) (fun hf => ?_)
                    · exact kJ68 _ _ _ hf
                    · refine z_aload_n C dL_best_268 0 rfl rfl ?_
                      refine z_bipush C (v := 14) dL_best_269 (by decide) ?_
                      refine z_iconst C (v := 0) dL_best_271 (by decide) ?_
                      refine z_iconst C (v := 0) dL_best_272 (by decide) ?_
                      refine z_iconst C (v := 0) dL_best_273 (by decide) ?_
                      refine z_iconst C (v := 0) dL_best_274 (by decide) ?_
                      obtain ⟨x78, h79, m80, n9, g77, hf, e9⟩ := zclE hf
                      refine z_callL (kc' := n9) (ks' := 6 * n9) CL (ML_call (xl X) CL.2.2.2 (xD X) (xT X) (xlo X) hi g77) cw_L_174 ys_L_call dL_best_275 rfl ⟨Nat.le_of_ble_eq_true rfl, Nat.le_of_ble_eq_true rfl⟩ ⟨by show m80 + _ = _; omega, by show 6 * m80 + _ = _; omega⟩ (Nat.le_of_ble_eq_true rfl) (st := [.int x60]) rfl ?_
                      refine z_if_lt (tgt := 285) C dL_best_278 (by decide) hf (fun hf => ?_) (fun hf => ?_)
                      · exact kJ68 _ _ _ hf
                      · refine z_iconst C (v := 1) dL_best_281 (by decide) ?_
                        refine z_goto (tgt := 286) C dL_best_282 (by decide) ?_
                        exact kJ65 _ _ _ _ hf
            · intro J61 kJ61 hf
              refine z_iload C dL_best_231 4 rfl ?_
              refine z_aload_n C dL_best_233 0 rfl rfl ?_
              refine z_bipush C (v := 12) dL_best_234 (by decide) ?_
              refine z_iload C dL_best_236 5 rfl ?_
              refine z_bipush C (v := (-9 : Int32)) dL_best_238 (by decide) ?_
              refine z_icmp_ne (tgt := 247) C dL_best_240 (by decide) hf (fun hf => ?_) (fun hf => ?_)
              · refine z_iload C dL_best_247 5 rfl ?_
                refine z_iconst C (v := 1) dL_best_249 (by decide) ?_
                refine z_iadd C dL_best_250 ?_
                refine z_sub [0, 1, 2, 3] rfl ?_
                exact kJ61 _ _ _ _ _ hf
              · refine z_iconst C (v := 0) dL_best_243 (by decide) ?_
                refine z_goto (tgt := 251) C dL_best_244 (by decide) ?_
                refine z_sub [0, 1, 2, 3] rfl ?_
                exact kJ61 _ _ _ _ _ hf
      · intro J16 kJ16 hf
        refine z_iand C dL_best_163 ?_
        refine z_istore C dL_best_164 (by decide) (lv' := [(9, .int (x10 &&& x9)), (0, .ref p0), (1, .int p1), (3, .long x1), (5, .int x2)]) rfl ?_
        refine z_aload_n C dL_best_166 1 rfl rfl ?_
        obtain ⟨x82, h83, g81, hf⟩ := zbind2 hf
        refine z_callV C (MX6_greatestMargin (xl X) (xD X) (xT X) (xlo X) hi g81) (OX6_greatestMargin g81) rfl cw_L_190 yv_X6_greatestMargin dL_best_167 rfl (by decide) ⟨Nat.zero_add _, Nat.zero_add _⟩ (Nat.le_of_ble_eq_true rfl) (st := []) rfl ?_
        refine z_istore C dL_best_170 (by decide) (lv' := [(13, .int x82), (9, .int (x10 &&& x9)), (0, .ref p0), (1, .int p1), (3, .long x1), (5, .int x2)]) rfl ?_
        refine z_iload C dL_best_172 0 rfl ?_
        refine z_bipush C (v := (-9 : Int32)) dL_best_174 (by decide) ?_
        refine z_icmp_eq (tgt := 224) C dL_best_176 (by decide) hf (fun hf => ?_) (fun hf => ?_)
        · refine z_sub [2, 3, 4, 5, 1, 0] rfl ?_
          exact kJ16 _ _ _ _ hf
        · refine z_join (P := fun J => ∀ (x84 : Int32) (x85 : Int32) (h86 : zH) (n9 : Nat), J x84 x85 h86 = some (rv, rh, n9) → zW X 16 (zZ X false (some (.int rv), hi, rh)) n9 (6 * n9) false hi h86 221 [(0, .ref p0), (1, .int p1), (3, .long x1), (5, .int x2), (13, .int x82)] [.int x84, .int x85]) hf ?_ ?_
          · intro x84 x85 h86 n9 hf
            refine z_iand C dL_best_221 ?_
            refine z_istore C dL_best_222 (by decide) (lv' := [(9, .int (x85 &&& x84)), (0, .ref p0), (1, .int p1), (3, .long x1), (5, .int x2), (13, .int x82)]) rfl ?_
            refine z_sub [1, 2, 3, 4, 0, 5] rfl ?_
            exact kJ16 _ _ _ _ hf
          · intro J87 kJ87 hf
            refine z_join (P := fun J => ∀ (x88 : Int32) (h89 : zH) (n9 : Nat), J x88 h89 = some (rv, rh, n9) → zW X 16 (zZ X false (some (.int rv), hi, rh)) n9 (6 * n9) false hi h89 220 [(0, .ref p0), (1, .int p1), (3, .long x1), (5, .int x2), (13, .int x82)] [.int x88]) hf ?_ ?_
            · intro x88 h89 n9 hf
              refine z_iconst C (v := 0) dL_best_220 (by decide) ?_
              exact kJ87 _ _ _ _ hf
            · intro J90 kJ90 hf
              refine z_iload C dL_best_179 1 rfl ?_
              refine z_aload_n C dL_best_181 2 rfl rfl ?_
              refine z_bipush C (v := 12) dL_best_182 (by decide) ?_
              refine z_iload C dL_best_184 0 rfl ?_
              refine z_iconst C (v := 0) dL_best_186 (by decide) ?_
              refine z_iconst C (v := 0) dL_best_187 (by decide) ?_
              refine z_iconst C (v := 0) dL_best_188 (by decide) ?_
              obtain ⟨x92, h93, m94, n9, g91, hf, e9⟩ := zclE hf
              refine z_callL (kc' := n9) (ks' := 6 * n9) CL (ML_call (xl X) CL.2.2.2 (xD X) (xT X) (xlo X) hi g91) cw_L_174 ys_L_call dL_best_189 rfl ⟨Nat.le_of_ble_eq_true rfl, Nat.le_of_ble_eq_true rfl⟩ ⟨by show m94 + _ = _; omega, by show 6 * m94 + _ = _; omega⟩ (Nat.le_of_ble_eq_true rfl) (st := [.int (x10 &&& x9)]) rfl ?_
              refine z_if_lt (tgt := 220) C dL_best_192 (by decide) hf (fun hf => ?_) (fun hf => ?_)
              · refine z_sub [2, 3, 4, 5, 0] rfl ?_
                exact kJ90 _ _ _ hf
              · refine z_aload_n C dL_best_195 2 rfl rfl ?_
                refine z_iconst C (v := 3) dL_best_196 (by decide) ?_
                obtain ⟨x96, h97, m98, n9, g95, hf, e9⟩ := zclE hf
                refine z_callL (kc' := n9) (ks' := 6 * n9) CL (ML_about (xl X) CL.2.2.2 (xD X) (xT X) (xlo X) hi g95) cw_L_180 ys_L_about dL_best_197 rfl ⟨Nat.le_of_ble_eq_true rfl, Nat.le_of_ble_eq_true rfl⟩ ⟨by show m98 + _ = _; omega, by show 6 * m98 + _ = _; omega⟩ (Nat.le_of_ble_eq_true rfl) (st := [.int (x10 &&& x9)]) rfl ?_
                refine z_if_ne (tgt := 220) C dL_best_200 (by decide) hf (fun hf => ?_) (fun hf => ?_)
                · refine z_sub [2, 3, 4, 5, 0] rfl ?_
                  exact kJ90 _ _ _ hf
                · refine z_aload_n C dL_best_203 2 rfl rfl ?_
                  refine z_bipush C (v := 14) dL_best_204 (by decide) ?_
                  refine z_iconst C (v := 0) dL_best_206 (by decide) ?_
                  refine z_iconst C (v := 0) dL_best_207 (by decide) ?_
                  refine z_iconst C (v := 0) dL_best_208 (by decide) ?_
                  refine z_iconst C (v := 0) dL_best_209 (by decide) ?_
                  obtain ⟨x100, h101, m102, n9, g99, hf, e9⟩ := zclE hf
                  refine z_callL (kc' := n9) (ks' := 6 * n9) CL (ML_call (xl X) CL.2.2.2 (xD X) (xT X) (xlo X) hi g99) cw_L_174 ys_L_call dL_best_210 rfl ⟨Nat.le_of_ble_eq_true rfl, Nat.le_of_ble_eq_true rfl⟩ ⟨by show m102 + _ = _; omega, by show 6 * m102 + _ = _; omega⟩ (Nat.le_of_ble_eq_true rfl) (st := [.int (x10 &&& x9)]) rfl ?_
                  refine z_if_lt (tgt := 220) C dL_best_213 (by decide) hf (fun hf => ?_) (fun hf => ?_)
                  · refine z_sub [2, 3, 4, 5, 0] rfl ?_
                    exact kJ90 _ _ _ hf
                  · refine z_iconst C (v := 1) dL_best_216 (by decide) ?_
                    refine z_goto (tgt := 221) C dL_best_217 (by decide) ?_
                    refine z_sub [2, 3, 4, 5, 0] rfl ?_
                    exact kJ87 _ _ _ _ hf
    · intro J12 kJ12 hf
      refine z_join (P := fun J => ∀ (x103 : Int32) (h104 : zH) (n9 : Nat), J x103 h104 = some (rv, rh, n9) → zW X 16 (zZ X false (some (.int rv), hi, rh)) n9 (6 * n9) false hi h104 162 [(0, .ref p0), (1, .int p1), (3, .long x1), (5, .int x2)] [.int x103]) hf ?_ ?_
      · intro x103 h104 n9 hf
        refine z_iconst C (v := 0) dL_best_162 (by decide) ?_
        exact kJ12 _ _ _ _ hf
      · intro J105 kJ105 hf
        refine z_join (P := fun J => ∀ (x106 : Int32) (h107 : zH) (n9 : Nat), J x106 h107 = some (rv, rh, n9) → zW X 16 (zZ X false (some (.int rv), hi, rh)) n9 (6 * n9) false hi h107 145 [(0, .ref p0), (1, .int p1), (3, .long x1), (5, .int x2)] [.int x106]) hf ?_ ?_
        · intro x106 h107 n9 hf
          refine z_aload_n C dL_best_145 0 rfl rfl ?_
          refine z_bipush C (v := 14) dL_best_146 (by decide) ?_
          refine z_iconst C (v := 0) dL_best_148 (by decide) ?_
          refine z_iconst C (v := 0) dL_best_149 (by decide) ?_
          refine z_iconst C (v := 0) dL_best_150 (by decide) ?_
          refine z_iconst C (v := 0) dL_best_151 (by decide) ?_
          obtain ⟨x110, h111, m112, n9, g109, hf, e9⟩ := zclE hf
          refine z_callL (kc' := n9) (ks' := 6 * n9) CL (ML_call (xl X) CL.2.2.2 (xD X) (xT X) (xlo X) hi g109) cw_L_174 ys_L_call dL_best_152 rfl ⟨Nat.le_of_ble_eq_true rfl, Nat.le_of_ble_eq_true rfl⟩ ⟨by show m112 + _ = _; omega, by show 6 * m112 + _ = _; omega⟩ (Nat.le_of_ble_eq_true rfl) (st := [.int x106]) rfl ?_
          refine z_if_lt (tgt := 162) C dL_best_155 (by decide) hf (fun hf => ?_) (fun hf => ?_)
          · exact kJ105 _ _ _ hf
          · refine z_iconst C (v := 1) dL_best_158 (by decide) ?_
            refine z_goto (tgt := 163) C dL_best_159 (by decide) ?_
            exact kJ12 _ _ _ _ hf
        · intro J108 kJ108 hf
          refine z_istore C dL_best_86 (by decide) (lv' := [(9, .int x6), (0, .ref p0), (1, .int p1), (2, .int p2), (3, .long x1), (5, .int x2), (6, .int x3), (7, .int x4), (8, .int x5)]) rfl ?_
          refine z_iload_n C dL_best_88 3 rfl rfl ?_
          refine z_iconst C (v := 4) dL_best_89 (by decide) ?_
          refine z_irem C dL_best_90 hf (fun x113 _ hf => ?_)
          refine z_istore C dL_best_91 (by decide) (lv' := [(10, .int x113), (9, .int x6), (0, .ref p0), (1, .int p1), (2, .int p2), (3, .long x1), (5, .int x2), (6, .int x3), (7, .int x4), (8, .int x5)]) rfl ?_
          refine z_iload_n C dL_best_93 4 rfl rfl ?_
          refine z_iconst C (v := 4) dL_best_94 (by decide) ?_
          refine z_idiv C dL_best_95 hf (fun x114 _ hf => ?_)
          refine z_bipush C (v := 9) dL_best_96 (by decide) ?_
          refine z_irem C dL_best_98 hf (fun x115 _ hf => ?_)
          refine z_istore C dL_best_99 (by decide) (lv' := [(11, .int x115), (10, .int x113), (9, .int x6), (0, .ref p0), (1, .int p1), (2, .int p2), (3, .long x1), (5, .int x2), (6, .int x3), (7, .int x4), (8, .int x5)]) rfl ?_
          refine z_aload_n C dL_best_101 3 rfl rfl ?_
          refine z_bipush C (v := 11) dL_best_102 (by decide) ?_
          refine z_iload_n C dL_best_104 4 rfl rfl ?_
          refine z_iload C dL_best_105 1 rfl ?_
          refine z_iload C dL_best_107 0 rfl ?_
          refine z_iload C dL_best_109 8 rfl ?_
          obtain ⟨x117, h118, m119, n9, g116, hf, e9⟩ := zclE hf
          refine z_callL (kc' := n9) (ks' := 6 * n9) CL (ML_call (xl X) CL.2.2.2 (xD X) (xT X) (xlo X) hi g116) cw_L_174 ys_L_call dL_best_111 rfl ⟨Nat.le_of_ble_eq_true rfl, Nat.le_of_ble_eq_true rfl⟩ ⟨by show m119 + _ = _; omega, by show 6 * m119 + _ = _; omega⟩ (Nat.le_of_ble_eq_true rfl) (st := []) rfl ?_
          refine z_istore C dL_best_114 (by decide) (lv' := [(12, .int x117), (11, .int x115), (10, .int x113), (9, .int x6), (0, .ref p0), (1, .int p1), (2, .int p2), (3, .long x1), (5, .int x2), (6, .int x3), (7, .int x4), (8, .int x5)]) rfl ?_
          refine z_iload C dL_best_116 3 rfl ?_
          refine z_iload C dL_best_118 0 rfl ?_
          refine z_iload C dL_best_120 11 rfl ?_
          refine z_icmp_gt (tgt := 145) C dL_best_122 (by decide) hf (fun hf => ?_) (fun hf => ?_)
          · refine z_sub [4, 5, 7, 8] rfl ?_
            exact kJ108 _ _ _ hf
          · refine z_iload C dL_best_125 0 rfl ?_
            refine z_iload C dL_best_127 11 rfl ?_
            refine z_icmp_ne (tgt := 162) C dL_best_129 (by decide) hf (fun hf => ?_) (fun hf => ?_)
            · refine z_sub [4, 5, 7, 8] rfl ?_
              exact kJ105 _ _ _ hf
            · refine z_iload C dL_best_132 10 rfl ?_
              refine z_bipush C (v := 10) dL_best_134 (by decide) ?_
              refine z_iload C dL_best_136 2 rfl ?_
              refine z_imul C dL_best_138 ?_
              refine z_iload C dL_best_139 1 rfl ?_
              refine z_iadd C dL_best_141 ?_
              refine z_icmp_gt (tgt := 162) C dL_best_142 (by decide) hf (fun hf => ?_) (fun hf => ?_)
              · refine z_sub [4, 5, 7, 8] rfl ?_
                exact kJ105 _ _ _ hf
              · refine z_sub [4, 5, 7, 8] rfl ?_
                exact kJ108 _ _ _ hf
  · intro J8 kJ8 hf
    refine z_join (P := fun J => ∀ (x120 : Int64) (x121 : Int32) (x122 : Int32) (x123 : Int32) (x124 : Int32) (h125 : zH) (n9 : Nat), J x120 x121 x122 x123 x124 h125 = some (rv, rh, n9) → zW X 16 (zZ X false (some (.int rv), hi, rh)) n9 (6 * n9) false hi h125 85 [(0, .ref p0), (1, .int p1), (2, .int p2), (3, .long x120), (5, .int x121), (6, .int x122), (7, .int x123), (8, .int x124)] []) hf ?_ ?_
    · intro x120 x121 x122 x123 x124 h125 n9 hf
      refine z_iconst C (v := 0) dL_best_85 (by decide) ?_
      exact kJ8 _ _ _ _ _ _ _ _ hf
    · intro J126 kJ126 hf
      refine z_aload_n C dL_best_0 0 rfl rfl ?_
      obtain ⟨x128, h129, m130, n9, g127, hf, e9⟩ := zclE hf
      refine z_callL (kc' := n9) (ks' := 6 * n9) CL (ML_sum (xl X) CL.2.2.2 (xD X) (xT X) (xlo X) hi g127) cw_L_186 ys_L_sum dL_best_1 rfl ⟨Nat.le_of_ble_eq_true rfl, Nat.le_of_ble_eq_true rfl⟩ ⟨by show m130 + _ = _; omega, by show 6 * m130 + _ = _; omega⟩ (Nat.le_of_ble_eq_true rfl) (st := []) rfl ?_
      refine z_lstore_n C dL_best_4 rfl (by decide) (lv' := [(3, .long x128), (0, .ref p0), (1, .int p1), (2, .int p2)]) rfl ?_
      refine z_aload_n C dL_best_5 1 rfl rfl ?_
      refine z_iconst C (v := 3) dL_best_6 (by decide) ?_
      obtain ⟨x132, h133, m134, n9, g131, hf, e9⟩ := zclE hf
      refine z_callL (kc' := n9) (ks' := 6 * n9) CL (ML_about (xl X) CL.2.2.2 (xD X) (xT X) (xlo X) hi g131) cw_L_180 ys_L_about dL_best_7 rfl ⟨Nat.le_of_ble_eq_true rfl, Nat.le_of_ble_eq_true rfl⟩ ⟨by show m134 + _ = _; omega, by show 6 * m134 + _ = _; omega⟩ (Nat.le_of_ble_eq_true rfl) (st := []) rfl ?_
      refine z_istore C dL_best_10 (by decide) (lv' := [(5, .int x132), (3, .long x128), (0, .ref p0), (1, .int p1), (2, .int p2)]) rfl ?_
      refine z_aload_n C dL_best_12 2 rfl rfl ?_
      refine z_iconst C (v := 3) dL_best_13 (by decide) ?_
      refine z_iload_n C dL_best_14 3 rfl rfl ?_
      refine z_iconst C (v := 2) dL_best_15 (by decide) ?_
      refine z_iconst C (v := 0) dL_best_16 (by decide) ?_
      refine z_iconst C (v := 0) dL_best_17 (by decide) ?_
      obtain ⟨x136, h137, m138, n9, g135, hf, e9⟩ := zclE hf
      refine z_callL (kc' := n9) (ks' := 6 * n9) CL (ML_call (xl X) CL.2.2.2 (xD X) (xT X) (xlo X) hi g135) cw_L_174 ys_L_call dL_best_18 rfl ⟨Nat.le_of_ble_eq_true rfl, Nat.le_of_ble_eq_true rfl⟩ ⟨by show m138 + _ = _; omega, by show 6 * m138 + _ = _; omega⟩ (Nat.le_of_ble_eq_true rfl) (st := []) rfl ?_
      refine z_istore C dL_best_21 (by decide) (lv' := [(6, .int x136), (5, .int x132), (3, .long x128), (0, .ref p0), (1, .int p1), (2, .int p2)]) rfl ?_
      refine z_aload_n C dL_best_23 3 rfl rfl ?_
      refine z_bipush C (v := 16) dL_best_24 (by decide) ?_
      refine z_iload_n C dL_best_26 4 rfl rfl ?_
      refine z_iconst C (v := 0) dL_best_27 (by decide) ?_
      refine z_iconst C (v := 0) dL_best_28 (by decide) ?_
      refine z_iconst C (v := 0) dL_best_29 (by decide) ?_
      obtain ⟨x140, h141, m142, n9, g139, hf, e9⟩ := zclE hf
      refine z_callL (kc' := n9) (ks' := 6 * n9) CL (ML_call (xl X) CL.2.2.2 (xD X) (xT X) (xlo X) hi g139) cw_L_174 ys_L_call dL_best_30 rfl ⟨Nat.le_of_ble_eq_true rfl, Nat.le_of_ble_eq_true rfl⟩ ⟨by show m142 + _ = _; omega, by show 6 * m142 + _ = _; omega⟩ (Nat.le_of_ble_eq_true rfl) (st := []) rfl ?_
      refine z_istore C dL_best_33 (by decide) (lv' := [(7, .int x140), (6, .int x136), (5, .int x132), (3, .long x128), (0, .ref p0), (1, .int p1), (2, .int p2)]) rfl ?_
      refine z_aload_n C dL_best_35 4 rfl rfl ?_
      refine z_bipush C (v := 11) dL_best_36 (by decide) ?_
      refine z_iload_n C dL_best_38 5 rfl rfl ?_
      refine z_iload C dL_best_39 0 rfl ?_
      refine z_bipush C (v := 10) dL_best_41 (by decide) ?_
      refine z_idiv C dL_best_43 hf (fun x143 _ hf => ?_)
      refine z_iload C dL_best_44 0 rfl ?_
      refine z_bipush C (v := 10) dL_best_46 (by decide) ?_
      refine z_irem C dL_best_48 hf (fun x144 _ hf => ?_)
      refine z_iload C dL_best_49 1 rfl ?_
      obtain ⟨x146, h147, m148, n9, g145, hf, e9⟩ := zclE hf
      refine z_callL (kc' := n9) (ks' := 6 * n9) CL (ML_call (xl X) CL.2.2.2 (xD X) (xT X) (xlo X) hi g145) cw_L_174 ys_L_call dL_best_51 rfl ⟨Nat.le_of_ble_eq_true rfl, Nat.le_of_ble_eq_true rfl⟩ ⟨by show m148 + _ = _; omega, by show 6 * m148 + _ = _; omega⟩ (Nat.le_of_ble_eq_true rfl) (st := []) rfl ?_
      refine z_istore C dL_best_54 (by decide) (lv' := [(8, .int x146), (7, .int x140), (6, .int x136), (5, .int x132), (3, .long x128), (0, .ref p0), (1, .int p1), (2, .int p2)]) rfl ?_
      refine z_iload C dL_best_56 0 rfl ?_
      refine z_if_lt (tgt := 85) C dL_best_58 (by decide) hf (fun hf => ?_) (fun hf => ?_)
      · refine z_sub [5, 6, 7, 4, 3, 2, 1, 0] rfl ?_
        exact kJ126 _ _ _ _ _ _ _ hf
      · refine z_iload C dL_best_61 0 rfl ?_
        refine z_iload C dL_best_63 3 rfl ?_
        refine z_icmp_gt (tgt := 85) C dL_best_65 (by decide) hf (fun hf => ?_) (fun hf => ?_)
        · refine z_sub [5, 6, 7, 4, 3, 2, 1, 0] rfl ?_
          exact kJ126 _ _ _ _ _ _ _ hf
        · refine z_aload_n C dL_best_68 5 rfl rfl ?_
          refine z_bipush C (v := 14) dL_best_69 (by decide) ?_
          refine z_iconst C (v := 0) dL_best_71 (by decide) ?_
          refine z_iconst C (v := 0) dL_best_72 (by decide) ?_
          refine z_iconst C (v := 0) dL_best_73 (by decide) ?_
          refine z_iconst C (v := 0) dL_best_74 (by decide) ?_
          obtain ⟨x150, h151, m152, n9, g149, hf, e9⟩ := zclE hf
          refine z_callL (kc' := n9) (ks' := 6 * n9) CL (ML_call (xl X) CL.2.2.2 (xD X) (xT X) (xlo X) hi g149) cw_L_174 ys_L_call dL_best_75 rfl ⟨Nat.le_of_ble_eq_true rfl, Nat.le_of_ble_eq_true rfl⟩ ⟨by show m152 + _ = _; omega, by show 6 * m152 + _ = _; omega⟩ (Nat.le_of_ble_eq_true rfl) (st := []) rfl ?_
          refine z_if_lt (tgt := 85) C dL_best_78 (by decide) hf (fun hf => ?_) (fun hf => ?_)
          · refine z_sub [5, 6, 7, 4, 3, 2, 1, 0] rfl ?_
            exact kJ126 _ _ _ _ _ _ _ hf
          · refine z_iconst C (v := 1) dL_best_81 (by decide) ?_
            refine z_goto (tgt := 86) C dL_best_82 (by decide) ?_
            refine z_sub [5, 6, 7, 4, 3, 2, 1, 0] rfl ?_
            exact kJ8 _ _ _ _ _ _ _ _ hf
theorem ML_best (l : Launch) (hl9 : l.stackTraces = false) (D : va_G) (T : zT) (lo hi : Nat) {h : zH} {p0 : Nat} {p1 : Int32} {p2 : Int32} {rv : Int32} {rh : zH} {n9 : Nat} (hf : FL_best T p0 p1 p2 h = some (rv, rh, n9)) : zMW l yL_best (.code yL_best cL_best 16 (some .boolean) :: TW) ({ frames := 12, cells := n9, slots := 6 * n9, locals := 267 } : Room) D T lo [.ref p0, .int p1, .int p2] hi h (some (.int rv), hi, rh) :=
  z_enterL hl9 (own := RL) (nm := "best") (lv := [(0, .ref p0), (1, .int p1), (2, .int p2)]) (by decide +kernel) rfl rfl (Nat.le_of_ble_eq_true rfl) rfl (fun _ _ _ _ _ _ _ _ C => BL_best C hf)
theorem dL_turns_0 : decode cL_turns 0 = .ok (.aload_n 0, 1) := by decide +kernel
theorem dL_turns_1 : decode cL_turns 1 = .ok (.invokestatic 186, 3) := by decide +kernel
theorem dL_turns_4 : decode cL_turns 4 = .ok (.lstore_n 1, 1) := by decide +kernel
theorem dL_turns_5 : decode cL_turns 5 = .ok (.aload_n 0, 1) := by decide +kernel
theorem dL_turns_6 : decode cL_turns 6 = .ok (.iconst 0, 1) := by decide +kernel
theorem dL_turns_7 : decode cL_turns 7 = .ok (.invokestatic 180, 3) := by decide +kernel
theorem dL_turns_10 : decode cL_turns 10 = .ok (.istore_n 3, 1) := by decide +kernel
theorem dL_turns_11 : decode cL_turns 11 = .ok (.aload_n 0, 1) := by decide +kernel
theorem dL_turns_12 : decode cL_turns 12 = .ok (.iconst 3, 1) := by decide +kernel
theorem dL_turns_13 : decode cL_turns 13 = .ok (.invokestatic 180, 3) := by decide +kernel
theorem dL_turns_16 : decode cL_turns 16 = .ok (.istore 4, 2) := by decide +kernel
theorem dL_turns_18 : decode cL_turns 18 = .ok (.aload_n 0, 1) := by decide +kernel
theorem dL_turns_19 : decode cL_turns 19 = .ok (.iconst 2, 1) := by decide +kernel
theorem dL_turns_20 : decode cL_turns 20 = .ok (.invokestatic 180, 3) := by decide +kernel
theorem dL_turns_23 : decode cL_turns 23 = .ok (.istore 5, 2) := by decide +kernel
theorem dL_turns_25 : decode cL_turns 25 = .ok (.iconst 1, 1) := by decide +kernel
theorem dL_turns_26 : decode cL_turns 26 = .ok (.istore 6, 2) := by decide +kernel
theorem dL_turns_28 : decode cL_turns 28 = .ok (.iconst 0, 1) := by decide +kernel
theorem dL_turns_29 : decode cL_turns 29 = .ok (.istore 7, 2) := by decide +kernel
theorem dL_turns_31 : decode cL_turns 31 = .ok (.iload 7, 2) := by decide +kernel
theorem dL_turns_33 : decode cL_turns 33 = .ok (.iconst 4, 1) := by decide +kernel
theorem dL_turns_34 : decode cL_turns 34 = .ok (.if_icmp .ge 89, 3) := by decide +kernel
theorem dL_turns_37 : decode cL_turns 37 = .ok (.aload_n 0, 1) := by decide +kernel
theorem dL_turns_38 : decode cL_turns 38 = .ok (.invokevirtual 193, 3) := by decide +kernel
theorem dL_turns_41 : decode cL_turns 41 = .ok (.istore 8, 2) := by decide +kernel
theorem dL_turns_43 : decode cL_turns 43 = .ok (.iload 6, 2) := by decide +kernel
theorem dL_turns_45 : decode cL_turns 45 = .ok (.iload 8, 2) := by decide +kernel
theorem dL_turns_47 : decode cL_turns 47 = .ok (.aload_n 0, 1) := by decide +kernel
theorem dL_turns_48 : decode cL_turns 48 = .ok (.iconst 3, 1) := by decide +kernel
theorem dL_turns_49 : decode cL_turns 49 = .ok (.iconst 0, 1) := by decide +kernel
theorem dL_turns_50 : decode cL_turns 50 = .ok (.iconst 3, 1) := by decide +kernel
theorem dL_turns_51 : decode cL_turns 51 = .ok (.iconst 0, 1) := by decide +kernel
theorem dL_turns_52 : decode cL_turns 52 = .ok (.iconst 0, 1) := by decide +kernel
theorem dL_turns_53 : decode cL_turns 53 = .ok (.invokestatic 174, 3) := by decide +kernel
theorem dL_turns_56 : decode cL_turns 56 = .ok (.aload_n 0, 1) := by decide +kernel
theorem dL_turns_57 : decode cL_turns 57 = .ok (.iconst 3, 1) := by decide +kernel
theorem dL_turns_58 : decode cL_turns 58 = .ok (.iconst 1, 1) := by decide +kernel
theorem dL_turns_59 : decode cL_turns 59 = .ok (.iconst 3, 1) := by decide +kernel
theorem dL_turns_60 : decode cL_turns 60 = .ok (.iconst 0, 1) := by decide +kernel
theorem dL_turns_61 : decode cL_turns 61 = .ok (.iconst 0, 1) := by decide +kernel
theorem dL_turns_62 : decode cL_turns 62 = .ok (.invokestatic 174, 3) := by decide +kernel
theorem dL_turns_65 : decode cL_turns 65 = .ok (.iadd, 1) := by decide +kernel
theorem dL_turns_66 : decode cL_turns 66 = .ok (.if_icmp .ne 47, 3) := by decide +kernel
theorem dL_turns_69 : decode cL_turns 69 = .ok (.aload_n 0, 1) := by decide +kernel
theorem dL_turns_70 : decode cL_turns 70 = .ok (.iconst 2, 1) := by decide +kernel
theorem dL_turns_71 : decode cL_turns 71 = .ok (.invokestatic 180, 3) := by decide +kernel
theorem dL_turns_74 : decode cL_turns 74 = .ok (.iload 5, 2) := by decide +kernel
theorem dL_turns_76 : decode cL_turns 76 = .ok (.if_icmp .ne 37, 3) := by decide +kernel
theorem dL_turns_79 : decode cL_turns 79 = .ok (.aload_n 0, 1) := by decide +kernel
theorem dL_turns_80 : decode cL_turns 80 = .ok (.iconst 3, 1) := by decide +kernel
theorem dL_turns_81 : decode cL_turns 81 = .ok (.invokestatic 180, 3) := by decide +kernel
theorem dL_turns_84 : decode cL_turns 84 = .ok (.iload 4, 2) := by decide +kernel
theorem dL_turns_86 : decode cL_turns 86 = .ok (.if_icmp .ne 27, 3) := by decide +kernel
theorem dL_turns_89 : decode cL_turns 89 = .ok (.aload_n 0, 1) := by decide +kernel
theorem dL_turns_90 : decode cL_turns 90 = .ok (.iload 7, 2) := by decide +kernel
theorem dL_turns_92 : decode cL_turns 92 = .ok (.iconst 2, 1) := by decide +kernel
theorem dL_turns_93 : decode cL_turns 93 = .ok (.irem, 1) := by decide +kernel
theorem dL_turns_94 : decode cL_turns 94 = .ok (.ifCond .ne 7, 3) := by decide +kernel
theorem dL_turns_97 : decode cL_turns 97 = .ok (.iconst 1, 1) := by decide +kernel
theorem dL_turns_98 : decode cL_turns 98 = .ok (.goto 4, 3) := by decide +kernel
theorem dL_turns_101 : decode cL_turns 101 = .ok (.iconst 0, 1) := by decide +kernel
theorem dL_turns_102 : decode cL_turns 102 = .ok (.invokestatic 180, 3) := by decide +kernel
theorem dL_turns_105 : decode cL_turns 105 = .ok (.iload_n 3, 1) := by decide +kernel
theorem dL_turns_106 : decode cL_turns 106 = .ok (.if_icmp .ne 7, 3) := by decide +kernel
theorem dL_turns_109 : decode cL_turns 109 = .ok (.iconst 1, 1) := by decide +kernel
theorem dL_turns_110 : decode cL_turns 110 = .ok (.goto 4, 3) := by decide +kernel
theorem dL_turns_113 : decode cL_turns 113 = .ok (.iconst 0, 1) := by decide +kernel
theorem dL_turns_114 : decode cL_turns 114 = .ok (.iand, 1) := by decide +kernel
theorem dL_turns_115 : decode cL_turns 115 = .ok (.istore 6, 2) := by decide +kernel
theorem dL_turns_117 : decode cL_turns 117 = .ok (.iinc 7 1, 3) := by decide +kernel
theorem dL_turns_120 : decode cL_turns 120 = .ok (.goto (-89), 3) := by decide +kernel
theorem dL_turns_123 : decode cL_turns 123 = .ok (.iload 6, 2) := by decide +kernel
theorem dL_turns_125 : decode cL_turns 125 = .ok (.aload_n 0, 1) := by decide +kernel
theorem dL_turns_126 : decode cL_turns 126 = .ok (.invokestatic 186, 3) := by decide +kernel
theorem dL_turns_129 : decode cL_turns 129 = .ok (.lload_n 1, 1) := by decide +kernel
theorem dL_turns_130 : decode cL_turns 130 = .ok (.lcmp, 1) := by decide +kernel
theorem dL_turns_131 : decode cL_turns 131 = .ok (.ifCond .ne 7, 3) := by decide +kernel
theorem dL_turns_134 : decode cL_turns 134 = .ok (.iconst 1, 1) := by decide +kernel
theorem dL_turns_135 : decode cL_turns 135 = .ok (.goto 4, 3) := by decide +kernel
theorem dL_turns_138 : decode cL_turns 138 = .ok (.iconst 0, 1) := by decide +kernel
theorem dL_turns_139 : decode cL_turns 139 = .ok (.iand, 1) := by decide +kernel
theorem dL_turns_140 : decode cL_turns 140 = .ok (.istore 6, 2) := by decide +kernel
theorem dL_turns_142 : decode cL_turns 142 = .ok (.iconst 0, 1) := by decide +kernel
theorem dL_turns_143 : decode cL_turns 143 = .ok (.istore 7, 2) := by decide +kernel
theorem dL_turns_145 : decode cL_turns 145 = .ok (.iload 7, 2) := by decide +kernel
theorem dL_turns_147 : decode cL_turns 147 = .ok (.iconst 4, 1) := by decide +kernel
theorem dL_turns_148 : decode cL_turns 148 = .ok (.if_icmp .ge 32, 3) := by decide +kernel
theorem dL_turns_151 : decode cL_turns 151 = .ok (.iload 6, 2) := by decide +kernel
theorem dL_turns_153 : decode cL_turns 153 = .ok (.aload_n 0, 1) := by decide +kernel
theorem dL_turns_154 : decode cL_turns 154 = .ok (.bipush 14, 2) := by decide +kernel
theorem dL_turns_156 : decode cL_turns 156 = .ok (.iconst 0, 1) := by decide +kernel
theorem dL_turns_157 : decode cL_turns 157 = .ok (.iconst 0, 1) := by decide +kernel
theorem dL_turns_158 : decode cL_turns 158 = .ok (.iconst 0, 1) := by decide +kernel
theorem dL_turns_159 : decode cL_turns 159 = .ok (.iconst 0, 1) := by decide +kernel
theorem dL_turns_160 : decode cL_turns 160 = .ok (.invokestatic 174, 3) := by decide +kernel
theorem dL_turns_163 : decode cL_turns 163 = .ok (.ifCond .lt 7, 3) := by decide +kernel
theorem dL_turns_166 : decode cL_turns 166 = .ok (.iconst 1, 1) := by decide +kernel
theorem dL_turns_167 : decode cL_turns 167 = .ok (.goto 4, 3) := by decide +kernel
theorem dL_turns_170 : decode cL_turns 170 = .ok (.iconst 0, 1) := by decide +kernel
theorem dL_turns_171 : decode cL_turns 171 = .ok (.iand, 1) := by decide +kernel
theorem dL_turns_172 : decode cL_turns 172 = .ok (.istore 6, 2) := by decide +kernel
theorem dL_turns_174 : decode cL_turns 174 = .ok (.iinc 7 1, 3) := by decide +kernel
theorem dL_turns_177 : decode cL_turns 177 = .ok (.goto (-32), 3) := by decide +kernel
theorem dL_turns_180 : decode cL_turns 180 = .ok (.iload 6, 2) := by decide +kernel
theorem dL_turns_182 : decode cL_turns 182 = .ok (.ifCond .eq 16, 3) := by decide +kernel
theorem dL_turns_185 : decode cL_turns 185 = .ok (.aload_n 0, 1) := by decide +kernel
theorem dL_turns_186 : decode cL_turns 186 = .ok (.invokestatic 186, 3) := by decide +kernel
theorem dL_turns_189 : decode cL_turns 189 = .ok (.lload_n 1, 1) := by decide +kernel
theorem dL_turns_190 : decode cL_turns 190 = .ok (.lcmp, 1) := by decide +kernel
theorem dL_turns_191 : decode cL_turns 191 = .ok (.ifCond .ne 7, 3) := by decide +kernel
theorem dL_turns_194 : decode cL_turns 194 = .ok (.iconst 1, 1) := by decide +kernel
theorem dL_turns_195 : decode cL_turns 195 = .ok (.goto 4, 3) := by decide +kernel
theorem dL_turns_198 : decode cL_turns 198 = .ok (.iconst 0, 1) := by decide +kernel
theorem dL_turns_199 : decode cL_turns 199 = .ok (.ireturn, 1) := by decide +kernel
def LL_turns_31 {ρ : Type} (T : zT) (x17 : Nat) (x18 : Int64) (x19 : Int32) (x20 : Int32) (x21 : Int32) (K0 : Int32 → zH → Option (ρ × zH × Nat)) : Nat → Int32 → Int32 → zH → Option (ρ × zH × Nat)
  | 0, _, _, _ => none
  | k + 1, x22, x23, h24 => if 4 ≤ x23 then (K0 x22 h24) else (zJ (fun (x25 : Int32) (x26 : Int32) (h27 : zH) => LL_turns_31 T x17 x18 x19 x20 x21 K0 k (x26 &&& x25) (x23 + 1) h27) (fun J28 => zJ (fun (x29 : Int32) (h30 : zH) => J28 0 x29 h30) (fun J31 => zb2 (FX6_turn T x17 h24) fun x33 h34 => zcl (FL_call T x17 3 0 3 0 0 h34) fun x36 h37 => zcl (FL_call T x17 3 1 3 0 0 h37) fun x40 h41 => if x33 = (x36 + x40) then (zcl (FL_about T x17 2 h41) fun x44 h45 => if x44 = x21 then (zcl (FL_about T x17 3 h45) fun x48 h49 => if x48 = x20 then (zJ (fun (x51 : Int32) (x52 : Nat) (x53 : Int32) => zcl (FL_about T x52 x51 h49) fun x56 h57 => if x56 = x19 then (J28 1 x53 h57) else (J31 x53 h57)) (fun J54 => (zremI x23 2).bind fun x59 => if x59 = 0 then (J54 1 x17 x22) else (J54 0 x17 x22))) else (J31 x22 h49)) else (J31 x22 h45)) else (J31 x22 h41))))
set_option maxHeartbeats 4000000 in
set_option maxRecDepth 100000 in
theorem LL_turns_31_ok {X : zX} (CL : zCL X cL_turns 9 RL "turns" (some .boolean) 12 267) {Z : State → Prop} {hi : Nat} {ρ : Type} {rv : ρ} {rh : zH} {x17 : Nat} {x18 : Int64} {x19 : Int32} {x20 : Int32} {x21 : Int32} {K0 : Int32 → zH → Option (ρ × zH × Nat)} (hK0 : ∀ (y6 : Int32) (g9 : zH) (n9 : Nat), K0 y6 g9 = some (rv, rh, n9) → zW X 9 Z n9 (6 * n9) false hi g9 123 [(0, .ref x17), (1, .long x18), (6, .int y6)] []) : ∀ (k : Nat) (x22 : Int32) (x23 : Int32) (h24 : zH) (n9 : Nat), LL_turns_31 (xT X) x17 x18 x19 x20 x21 K0 k x22 x23 h24 = some (rv, rh, n9) → zW X 9 Z n9 (6 * n9) false hi h24 31 [(0, .ref x17), (1, .long x18), (3, .int x19), (4, .int x20), (5, .int x21), (6, .int x22), (7, .int x23)] [] := by
  have C := CL.1
  intro k
  induction k with
  | zero =>
    intro x22 x23 h24 n9 hf
    have hf : none = some (rv, rh, n9) := hf
    cases hf
  | succ k ih =>
    intro x22 x23 h24 n9 hf
    rw [LL_turns_31.eq_2] at hf
    refine z_iload C dL_turns_31 6 rfl ?_
    refine z_iconst C (v := 4) dL_turns_33 (by decide) ?_
    refine z_icmp_ge (tgt := 123) C dL_turns_34 (by decide) hf (fun hf => ?_) (fun hf => ?_)
    · refine z_sub [0, 1, 5] rfl ?_
      exact hK0 _ _ _ hf
    · refine z_join (P := fun J => ∀ (x25 : Int32) (x26 : Int32) (h27 : zH) (n9 : Nat), J x25 x26 h27 = some (rv, rh, n9) → zW X 9 Z n9 (6 * n9) false hi h27 114 [(0, .ref x17), (1, .long x18), (3, .int x19), (4, .int x20), (5, .int x21), (7, .int x23)] [.int x25, .int x26]) hf ?_ ?_
      · intro x25 x26 h27 n9 hf
        refine z_iand C dL_turns_114 ?_
        refine z_istore C dL_turns_115 (by decide) (lv' := [(6, .int (x26 &&& x25)), (0, .ref x17), (1, .long x18), (3, .int x19), (4, .int x20), (5, .int x21), (7, .int x23)]) rfl ?_
        refine z_iinc C dL_turns_117 (k := 6) (d := 1) rfl (by decide) (by decide) (lv' := [(7, .int (x23 + 1)), (6, .int (x26 &&& x25)), (0, .ref x17), (1, .long x18), (3, .int x19), (4, .int x20), (5, .int x21)]) rfl ?_
        refine z_goto (tgt := 31) C dL_turns_120 (by decide) ?_
        refine z_sub [2, 3, 4, 5, 6, 1, 0] rfl ?_
        exact ih _ _ _ _ hf
      · intro J28 kJ28 hf
        refine z_join (P := fun J => ∀ (x29 : Int32) (h30 : zH) (n9 : Nat), J x29 h30 = some (rv, rh, n9) → zW X 9 Z n9 (6 * n9) false hi h30 113 [(0, .ref x17), (1, .long x18), (3, .int x19), (4, .int x20), (5, .int x21), (7, .int x23)] [.int x29]) hf ?_ ?_
        · intro x29 h30 n9 hf
          refine z_iconst C (v := 0) dL_turns_113 (by decide) ?_
          exact kJ28 _ _ _ _ hf
        · intro J31 kJ31 hf
          refine z_aload_n C dL_turns_37 0 rfl rfl ?_
          obtain ⟨x33, h34, g32, hf⟩ := zbind2 hf
          refine z_callV C (MX6_turn (xl X) (xD X) (xT X) (xlo X) hi g32) (OX6_turn g32) rfl cw_L_193 yv_X6_turn dL_turns_38 rfl (by decide) ⟨Nat.zero_add _, Nat.zero_add _⟩ (Nat.le_of_ble_eq_true rfl) (st := []) rfl ?_
          refine z_istore C dL_turns_41 (by decide) (lv' := [(8, .int x33), (0, .ref x17), (1, .long x18), (3, .int x19), (4, .int x20), (5, .int x21), (6, .int x22), (7, .int x23)]) rfl ?_
          refine z_iload C dL_turns_43 6 rfl ?_
          refine z_iload C dL_turns_45 0 rfl ?_
          refine z_aload_n C dL_turns_47 1 rfl rfl ?_
          refine z_iconst C (v := 3) dL_turns_48 (by decide) ?_
          refine z_iconst C (v := 0) dL_turns_49 (by decide) ?_
          refine z_iconst C (v := 3) dL_turns_50 (by decide) ?_
          refine z_iconst C (v := 0) dL_turns_51 (by decide) ?_
          refine z_iconst C (v := 0) dL_turns_52 (by decide) ?_
          obtain ⟨x36, h37, m38, n9, g35, hf, e9⟩ := zclE hf
          refine z_callL (kc' := n9) (ks' := 6 * n9) CL (ML_call (xl X) CL.2.2.2 (xD X) (xT X) (xlo X) hi g35) cw_L_174 ys_L_call dL_turns_53 rfl ⟨Nat.le_of_ble_eq_true rfl, Nat.le_of_ble_eq_true rfl⟩ ⟨by show m38 + _ = _; omega, by show 6 * m38 + _ = _; omega⟩ (Nat.le_of_ble_eq_true rfl) (st := [.int x33, .int x22]) rfl ?_
          refine z_aload_n C dL_turns_56 1 rfl rfl ?_
          refine z_iconst C (v := 3) dL_turns_57 (by decide) ?_
          refine z_iconst C (v := 1) dL_turns_58 (by decide) ?_
          refine z_iconst C (v := 3) dL_turns_59 (by decide) ?_
          refine z_iconst C (v := 0) dL_turns_60 (by decide) ?_
          refine z_iconst C (v := 0) dL_turns_61 (by decide) ?_
          obtain ⟨x40, h41, m42, n9, g39, hf, e9⟩ := zclE hf
          refine z_callL (kc' := n9) (ks' := 6 * n9) CL (ML_call (xl X) CL.2.2.2 (xD X) (xT X) (xlo X) hi g39) cw_L_174 ys_L_call dL_turns_62 rfl ⟨Nat.le_of_ble_eq_true rfl, Nat.le_of_ble_eq_true rfl⟩ ⟨by show m42 + _ = _; omega, by show 6 * m42 + _ = _; omega⟩ (Nat.le_of_ble_eq_true rfl) (st := [.int x36, .int x33, .int x22]) rfl ?_
          refine z_iadd C dL_turns_65 ?_
          refine z_icmp_ne (tgt := 113) C dL_turns_66 (by decide) hf (fun hf => ?_) (fun hf => ?_)
          · refine z_sub [1, 2, 3, 4, 5, 7] rfl ?_
            exact kJ31 _ _ _ hf
          · refine z_aload_n C dL_turns_69 1 rfl rfl ?_
            refine z_iconst C (v := 2) dL_turns_70 (by decide) ?_
            obtain ⟨x44, h45, m46, n9, g43, hf, e9⟩ := zclE hf
            refine z_callL (kc' := n9) (ks' := 6 * n9) CL (ML_about (xl X) CL.2.2.2 (xD X) (xT X) (xlo X) hi g43) cw_L_180 ys_L_about dL_turns_71 rfl ⟨Nat.le_of_ble_eq_true rfl, Nat.le_of_ble_eq_true rfl⟩ ⟨by show m46 + _ = _; omega, by show 6 * m46 + _ = _; omega⟩ (Nat.le_of_ble_eq_true rfl) (st := [.int x22]) rfl ?_
            refine z_iload C dL_turns_74 5 rfl ?_
            refine z_icmp_ne (tgt := 113) C dL_turns_76 (by decide) hf (fun hf => ?_) (fun hf => ?_)
            · refine z_sub [1, 2, 3, 4, 5, 7] rfl ?_
              exact kJ31 _ _ _ hf
            · refine z_aload_n C dL_turns_79 1 rfl rfl ?_
              refine z_iconst C (v := 3) dL_turns_80 (by decide) ?_
              obtain ⟨x48, h49, m50, n9, g47, hf, e9⟩ := zclE hf
              refine z_callL (kc' := n9) (ks' := 6 * n9) CL (ML_about (xl X) CL.2.2.2 (xD X) (xT X) (xlo X) hi g47) cw_L_180 ys_L_about dL_turns_81 rfl ⟨Nat.le_of_ble_eq_true rfl, Nat.le_of_ble_eq_true rfl⟩ ⟨by show m50 + _ = _; omega, by show 6 * m50 + _ = _; omega⟩ (Nat.le_of_ble_eq_true rfl) (st := [.int x22]) rfl ?_
              refine z_iload C dL_turns_84 4 rfl ?_
              refine z_icmp_ne (tgt := 113) C dL_turns_86 (by decide) hf (fun hf => ?_) (fun hf => ?_)
              · refine z_sub [1, 2, 3, 4, 5, 7] rfl ?_
                exact kJ31 _ _ _ hf
              · refine z_join (P := fun J => ∀ (x51 : Int32) (x52 : Nat) (x53 : Int32) (n9 : Nat), J x51 x52 x53 = some (rv, rh, n9) → zW X 9 Z n9 (6 * n9) false hi h49 102 [(0, .ref x17), (1, .long x18), (3, .int x19), (4, .int x20), (5, .int x21), (7, .int x23)] [.int x51, .ref x52, .int x53]) hf ?_ ?_
                · intro x51 x52 x53 n9 hf
                  obtain ⟨x56, h57, m58, n9, g55, hf, e9⟩ := zclE hf
                  refine z_callL (kc' := n9) (ks' := 6 * n9) CL (ML_about (xl X) CL.2.2.2 (xD X) (xT X) (xlo X) hi g55) cw_L_180 ys_L_about dL_turns_102 rfl ⟨Nat.le_of_ble_eq_true rfl, Nat.le_of_ble_eq_true rfl⟩ ⟨by show m58 + _ = _; omega, by show 6 * m58 + _ = _; omega⟩ (Nat.le_of_ble_eq_true rfl) (st := [.int x53]) rfl ?_
                  refine z_iload_n C dL_turns_105 2 rfl rfl ?_
                  refine z_icmp_ne (tgt := 113) C dL_turns_106 (by decide) hf (fun hf => ?_) (fun hf => ?_)
                  · exact kJ31 _ _ _ hf
                  · refine z_iconst C (v := 1) dL_turns_109 (by decide) ?_
                    refine z_goto (tgt := 114) C dL_turns_110 (by decide) ?_
                    exact kJ28 _ _ _ _ hf
                · intro J54 kJ54 hf
                  refine z_aload_n C dL_turns_89 1 rfl rfl ?_
                  refine z_iload C dL_turns_90 7 rfl ?_
                  refine z_iconst C (v := 2) dL_turns_92 (by decide) ?_
                  refine z_irem C dL_turns_93 hf (fun x59 _ hf => ?_)
                  refine z_if_ne (tgt := 101) C dL_turns_94 (by decide) hf (fun hf => ?_) (fun hf => ?_)
                  · refine z_iconst C (v := 0) dL_turns_101 (by decide) ?_
                    refine z_sub [1, 2, 3, 4, 5, 7] rfl ?_
                    exact kJ54 _ _ _ _ hf
                  · refine z_iconst C (v := 1) dL_turns_97 (by decide) ?_
                    refine z_goto (tgt := 102) C dL_turns_98 (by decide) ?_
                    refine z_sub [1, 2, 3, 4, 5, 7] rfl ?_
                    exact kJ54 _ _ _ _ hf
def LL_turns_145 {ρ : Type} (T : zT) (x66 : Nat) (x67 : Int64) (K0 : Int32 → zH → Option (ρ × zH × Nat)) : Nat → Int32 → Int32 → zH → Option (ρ × zH × Nat)
  | 0, _, _, _ => none
  | k + 1, x68, x69, h70 => if 4 ≤ x69 then (K0 x68 h70) else (zJ (fun (x71 : Int32) (x72 : Int32) (h73 : zH) => LL_turns_145 T x66 x67 K0 k (x72 &&& x71) (x69 + 1) h73) (fun J74 => zcl (FL_call T x66 14 0 0 0 0 h70) fun x76 h77 => if x76 < 0 then (J74 0 x68 h77) else (J74 1 x68 h77)))
set_option maxHeartbeats 4000000 in
set_option maxRecDepth 100000 in
theorem LL_turns_145_ok {X : zX} (CL : zCL X cL_turns 9 RL "turns" (some .boolean) 12 267) {Z : State → Prop} {hi : Nat} {ρ : Type} {rv : ρ} {rh : zH} {x66 : Nat} {x67 : Int64} {K0 : Int32 → zH → Option (ρ × zH × Nat)} (hK0 : ∀ (y6 : Int32) (g9 : zH) (n9 : Nat), K0 y6 g9 = some (rv, rh, n9) → zW X 9 Z n9 (6 * n9) false hi g9 180 [(0, .ref x66), (1, .long x67), (6, .int y6)] []) : ∀ (k : Nat) (x68 : Int32) (x69 : Int32) (h70 : zH) (n9 : Nat), LL_turns_145 (xT X) x66 x67 K0 k x68 x69 h70 = some (rv, rh, n9) → zW X 9 Z n9 (6 * n9) false hi h70 145 [(0, .ref x66), (1, .long x67), (6, .int x68), (7, .int x69)] [] := by
  have C := CL.1
  intro k
  induction k with
  | zero =>
    intro x68 x69 h70 n9 hf
    have hf : none = some (rv, rh, n9) := hf
    cases hf
  | succ k ih =>
    intro x68 x69 h70 n9 hf
    rw [LL_turns_145.eq_2] at hf
    refine z_iload C dL_turns_145 3 rfl ?_
    refine z_iconst C (v := 4) dL_turns_147 (by decide) ?_
    refine z_icmp_ge (tgt := 180) C dL_turns_148 (by decide) hf (fun hf => ?_) (fun hf => ?_)
    · refine z_sub [0, 1, 2] rfl ?_
      exact hK0 _ _ _ hf
    · refine z_join (P := fun J => ∀ (x71 : Int32) (x72 : Int32) (h73 : zH) (n9 : Nat), J x71 x72 h73 = some (rv, rh, n9) → zW X 9 Z n9 (6 * n9) false hi h73 171 [(0, .ref x66), (1, .long x67), (7, .int x69)] [.int x71, .int x72]) hf ?_ ?_
      · intro x71 x72 h73 n9 hf
        refine z_iand C dL_turns_171 ?_
        refine z_istore C dL_turns_172 (by decide) (lv' := [(6, .int (x72 &&& x71)), (0, .ref x66), (1, .long x67), (7, .int x69)]) rfl ?_
        refine z_iinc C dL_turns_174 (k := 3) (d := 1) rfl (by decide) (by decide) (lv' := [(7, .int (x69 + 1)), (6, .int (x72 &&& x71)), (0, .ref x66), (1, .long x67)]) rfl ?_
        refine z_goto (tgt := 145) C dL_turns_177 (by decide) ?_
        refine z_sub [2, 3, 1, 0] rfl ?_
        exact ih _ _ _ _ hf
      · intro J74 kJ74 hf
        refine z_iload C dL_turns_151 2 rfl ?_
        refine z_aload_n C dL_turns_153 0 rfl rfl ?_
        refine z_bipush C (v := 14) dL_turns_154 (by decide) ?_
        refine z_iconst C (v := 0) dL_turns_156 (by decide) ?_
        refine z_iconst C (v := 0) dL_turns_157 (by decide) ?_
        refine z_iconst C (v := 0) dL_turns_158 (by decide) ?_
        refine z_iconst C (v := 0) dL_turns_159 (by decide) ?_
        obtain ⟨x76, h77, m78, n9, g75, hf, e9⟩ := zclE hf
        refine z_callL (kc' := n9) (ks' := 6 * n9) CL (ML_call (xl X) CL.2.2.2 (xD X) (xT X) (xlo X) hi g75) cw_L_174 ys_L_call dL_turns_160 rfl ⟨Nat.le_of_ble_eq_true rfl, Nat.le_of_ble_eq_true rfl⟩ ⟨by show m78 + _ = _; omega, by show 6 * m78 + _ = _; omega⟩ (Nat.le_of_ble_eq_true rfl) (st := [.int x68]) rfl ?_
        refine z_if_lt (tgt := 170) C dL_turns_163 (by decide) hf (fun hf => ?_) (fun hf => ?_)
        · refine z_iconst C (v := 0) dL_turns_170 (by decide) ?_
          refine z_sub [0, 1, 3] rfl ?_
          exact kJ74 _ _ _ _ hf
        · refine z_iconst C (v := 1) dL_turns_166 (by decide) ?_
          refine z_goto (tgt := 171) C dL_turns_167 (by decide) ?_
          refine z_sub [0, 1, 3] rfl ?_
          exact kJ74 _ _ _ _ hf
def FL_turns (T : zT) (p0 : Nat) (h : zH) : Option (Int32 × zH × Nat) := zcl (FL_sum T p0 h) fun x2 h3 => zcl (FL_about T p0 0 h3) fun x6 h7 => zcl (FL_about T p0 3 h7) fun x10 h11 => zcl (FL_about T p0 2 h11) fun x14 h15 => LL_turns_31 T p0 x2 x6 x10 x14 (fun (x60 : Int32) (h61 : zH) => zJ (fun (x62 : Int32) (x63 : Int32) (h64 : zH) => LL_turns_145 T p0 x2 (fun (x79 : Int32) (h80 : zH) => zJ (fun (x81 : Int32) (h82 : zH) => if x81 = 0 ∨ x81 = 1 then some (x81, h82, 0) else none) (fun J83 => zJ (fun (h84 : zH) => J83 0 h84) (fun J85 => if x79 = 0 then (J85 h80) else (zcl (FL_sum T p0 h80) fun x87 h88 => if (lg_cmp x87 x2) = 0 then (J83 1 h88) else (J85 h88))))) FUEL (x63 &&& x62) 0 h64) (fun J65 => zcl (FL_sum T p0 h61) fun x91 h92 => if (lg_cmp x91 x2) = 0 then (J65 1 x60 h92) else (J65 0 x60 h92))) FUEL 1 0 h15
set_option maxHeartbeats 4000000 in
set_option maxRecDepth 100000 in
theorem BL_turns {X : zX} (CL : zCL X cL_turns 9 RL "turns" (some .boolean) 12 267) {hi : Nat} {h : zH} {p0 : Nat} {rv : Int32} {rh : zH} {n9 : Nat} (hf : FL_turns (xT X) p0 h = some (rv, rh, n9)) : zW X 9 (zZ X false (some (.int rv), hi, rh)) n9 (6 * n9) false hi h 0 [(0, .ref p0)] [] := by
  have C := CL.1
  unfold FL_turns at hf
  refine z_aload_n C dL_turns_0 0 rfl rfl ?_
  obtain ⟨x2, h3, m4, n9, g1, hf, e9⟩ := zclE hf
  refine z_callL (kc' := n9) (ks' := 6 * n9) CL (ML_sum (xl X) CL.2.2.2 (xD X) (xT X) (xlo X) hi g1) cw_L_186 ys_L_sum dL_turns_1 rfl ⟨Nat.le_of_ble_eq_true rfl, Nat.le_of_ble_eq_true rfl⟩ ⟨by show m4 + _ = _; omega, by show 6 * m4 + _ = _; omega⟩ (Nat.le_of_ble_eq_true rfl) (st := []) rfl ?_
  refine z_lstore_n C dL_turns_4 rfl (by decide) (lv' := [(1, .long x2), (0, .ref p0)]) rfl ?_
  refine z_aload_n C dL_turns_5 1 rfl rfl ?_
  refine z_iconst C (v := 0) dL_turns_6 (by decide) ?_
  obtain ⟨x6, h7, m8, n9, g5, hf, e9⟩ := zclE hf
  refine z_callL (kc' := n9) (ks' := 6 * n9) CL (ML_about (xl X) CL.2.2.2 (xD X) (xT X) (xlo X) hi g5) cw_L_180 ys_L_about dL_turns_7 rfl ⟨Nat.le_of_ble_eq_true rfl, Nat.le_of_ble_eq_true rfl⟩ ⟨by show m8 + _ = _; omega, by show 6 * m8 + _ = _; omega⟩ (Nat.le_of_ble_eq_true rfl) (st := []) rfl ?_
  refine z_istore_n C dL_turns_10 rfl (by decide) (lv' := [(3, .int x6), (1, .long x2), (0, .ref p0)]) rfl ?_
  refine z_aload_n C dL_turns_11 2 rfl rfl ?_
  refine z_iconst C (v := 3) dL_turns_12 (by decide) ?_
  obtain ⟨x10, h11, m12, n9, g9, hf, e9⟩ := zclE hf
  refine z_callL (kc' := n9) (ks' := 6 * n9) CL (ML_about (xl X) CL.2.2.2 (xD X) (xT X) (xlo X) hi g9) cw_L_180 ys_L_about dL_turns_13 rfl ⟨Nat.le_of_ble_eq_true rfl, Nat.le_of_ble_eq_true rfl⟩ ⟨by show m12 + _ = _; omega, by show 6 * m12 + _ = _; omega⟩ (Nat.le_of_ble_eq_true rfl) (st := []) rfl ?_
  refine z_istore C dL_turns_16 (by decide) (lv' := [(4, .int x10), (3, .int x6), (1, .long x2), (0, .ref p0)]) rfl ?_
  refine z_aload_n C dL_turns_18 3 rfl rfl ?_
  refine z_iconst C (v := 2) dL_turns_19 (by decide) ?_
  obtain ⟨x14, h15, m16, n9, g13, hf, e9⟩ := zclE hf
  refine z_callL (kc' := n9) (ks' := 6 * n9) CL (ML_about (xl X) CL.2.2.2 (xD X) (xT X) (xlo X) hi g13) cw_L_180 ys_L_about dL_turns_20 rfl ⟨Nat.le_of_ble_eq_true rfl, Nat.le_of_ble_eq_true rfl⟩ ⟨by show m16 + _ = _; omega, by show 6 * m16 + _ = _; omega⟩ (Nat.le_of_ble_eq_true rfl) (st := []) rfl ?_
  refine z_istore C dL_turns_23 (by decide) (lv' := [(5, .int x14), (4, .int x10), (3, .int x6), (1, .long x2), (0, .ref p0)]) rfl ?_
  refine z_iconst C (v := 1) dL_turns_25 (by decide) ?_
  refine z_istore C dL_turns_26 (by decide) (lv' := [(6, .int 1), (5, .int x14), (4, .int x10), (3, .int x6), (1, .long x2), (0, .ref p0)]) rfl ?_
  refine z_iconst C (v := 0) dL_turns_28 (by decide) ?_
  refine z_istore C dL_turns_29 (by decide) (lv' := [(7, .int 0), (6, .int 1), (5, .int x14), (4, .int x10), (3, .int x6), (1, .long x2), (0, .ref p0)]) rfl ?_
  refine z_sub [6, 5, 4, 3, 2, 1, 0] rfl ?_
  refine LL_turns_31_ok CL ?_ FUEL _ _ _ _ hf
  · intro x60 h61 n9 hf
    refine z_join (P := fun J => ∀ (x62 : Int32) (x63 : Int32) (h64 : zH) (n9 : Nat), J x62 x63 h64 = some (rv, rh, n9) → zW X 9 (zZ X false (some (.int rv), hi, rh)) n9 (6 * n9) false hi h64 139 [(0, .ref p0), (1, .long x2)] [.int x62, .int x63]) hf ?_ ?_
    · intro x62 x63 h64 n9 hf
      refine z_iand C dL_turns_139 ?_
      refine z_istore C dL_turns_140 (by decide) (lv' := [(6, .int (x63 &&& x62)), (0, .ref p0), (1, .long x2)]) rfl ?_
      refine z_iconst C (v := 0) dL_turns_142 (by decide) ?_
      refine z_istore C dL_turns_143 (by decide) (lv' := [(7, .int 0), (6, .int (x63 &&& x62)), (0, .ref p0), (1, .long x2)]) rfl ?_
      refine z_sub [2, 3, 1, 0] rfl ?_
      refine LL_turns_145_ok CL ?_ FUEL _ _ _ _ hf
      · intro x79 h80 n9 hf
        refine z_join (P := fun J => ∀ (x81 : Int32) (h82 : zH) (n9 : Nat), J x81 h82 = some (rv, rh, n9) → zW X 9 (zZ X false (some (.int rv), hi, rh)) n9 (6 * n9) false hi h82 199 [] [.int x81]) hf ?_ ?_
        · intro x81 h82 n9 hf
          refine z_ite hf (fun c hf => ?_) (fun c hf => nomatch hf)
          exact z_zreturn C dL_turns_199 c (by cases hf; rfl)
        · intro J83 kJ83 hf
          refine z_join (P := fun J => ∀ (h84 : zH) (n9 : Nat), J h84 = some (rv, rh, n9) → zW X 9 (zZ X false (some (.int rv), hi, rh)) n9 (6 * n9) false hi h84 198 [] []) hf ?_ ?_
          · intro h84 n9 hf
            refine z_iconst C (v := 0) dL_turns_198 (by decide) ?_
            exact kJ83 _ _ _ hf
          · intro J85 kJ85 hf
            refine z_iload C dL_turns_180 2 rfl ?_
            refine z_if_eq (tgt := 198) C dL_turns_182 (by decide) hf (fun hf => ?_) (fun hf => ?_)
            · refine z_sub [] rfl ?_
              exact kJ85 _ _ hf
            · refine z_aload_n C dL_turns_185 0 rfl rfl ?_
              obtain ⟨x87, h88, m89, n9, g86, hf, e9⟩ := zclE hf
              refine z_callL (kc' := n9) (ks' := 6 * n9) CL (ML_sum (xl X) CL.2.2.2 (xD X) (xT X) (xlo X) hi g86) cw_L_186 ys_L_sum dL_turns_186 rfl ⟨Nat.le_of_ble_eq_true rfl, Nat.le_of_ble_eq_true rfl⟩ ⟨by show m89 + _ = _; omega, by show 6 * m89 + _ = _; omega⟩ (Nat.le_of_ble_eq_true rfl) (st := []) rfl ?_
              refine z_lload_n C dL_turns_189 1 rfl rfl ?_
              refine z_lcmp C dL_turns_190 ?_
              refine z_if_ne (tgt := 198) C dL_turns_191 (by decide) hf (fun hf => ?_) (fun hf => ?_)
              · refine z_sub [] rfl ?_
                exact kJ85 _ _ hf
              · refine z_iconst C (v := 1) dL_turns_194 (by decide) ?_
                refine z_goto (tgt := 199) C dL_turns_195 (by decide) ?_
                refine z_sub [] rfl ?_
                exact kJ83 _ _ _ hf
    · intro J65 kJ65 hf
      refine z_iload C dL_turns_123 2 rfl ?_
      refine z_aload_n C dL_turns_125 0 rfl rfl ?_
      obtain ⟨x91, h92, m93, n9, g90, hf, e9⟩ := zclE hf
      refine z_callL (kc' := n9) (ks' := 6 * n9) CL (ML_sum (xl X) CL.2.2.2 (xD X) (xT X) (xlo X) hi g90) cw_L_186 ys_L_sum dL_turns_126 rfl ⟨Nat.le_of_ble_eq_true rfl, Nat.le_of_ble_eq_true rfl⟩ ⟨by show m93 + _ = _; omega, by show 6 * m93 + _ = _; omega⟩ (Nat.le_of_ble_eq_true rfl) (st := [.int x60]) rfl ?_
      refine z_lload_n C dL_turns_129 1 rfl rfl ?_
      refine z_lcmp C dL_turns_130 ?_
      refine z_if_ne (tgt := 138) C dL_turns_131 (by decide) hf (fun hf => ?_) (fun hf => ?_)
      · refine z_iconst C (v := 0) dL_turns_138 (by decide) ?_
        refine z_sub [0, 1] rfl ?_
        exact kJ65 _ _ _ _ hf
      · refine z_iconst C (v := 1) dL_turns_134 (by decide) ?_
        refine z_goto (tgt := 139) C dL_turns_135 (by decide) ?_
        refine z_sub [0, 1] rfl ?_
        exact kJ65 _ _ _ _ hf
theorem ML_turns (l : Launch) (hl9 : l.stackTraces = false) (D : va_G) (T : zT) (lo hi : Nat) {h : zH} {p0 : Nat} {rv : Int32} {rh : zH} {n9 : Nat} (hf : FL_turns T p0 h = some (rv, rh, n9)) : zMW l yL_turns (.code yL_turns cL_turns 9 (some .boolean) :: TW) ({ frames := 12, cells := n9, slots := 6 * n9, locals := 267 } : Room) D T lo [.ref p0] hi h (some (.int rv), hi, rh) :=
  z_enterL hl9 (own := RL) (nm := "turns") (lv := [(0, .ref p0)]) (by decide +kernel) rfl rfl (Nat.le_of_ble_eq_true rfl) rfl (fun _ _ _ _ _ _ _ _ C => BL_turns C hf)
