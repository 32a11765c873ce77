theorem mw_285 : (Jvm.Cond.methodLink "CrossedSheetLaw" (231 : Nat) ({ cls := "CrossedSheetLaw", name := "trySimulate", desc := "(LCrossedSheet;JI)I" } : Jvm.MethodName)) ∈ TW := TWm 285 (by decide +kernel) (by decide +kernel)
theorem mw_286 : (Jvm.Cond.static ({ cls := "CrossedSheetLaw", name := "trySimulate", desc := "(LCrossedSheet;JI)I" } : Jvm.MethodName)) ∈ TW := TWm 286 (by decide +kernel) (by decide +kernel)
theorem mw_287 : (Jvm.Cond.codeWith ({ cls := "CrossedSheetLaw", name := "trySimulate", desc := "(LCrossedSheet;JI)I" } : Jvm.MethodName) method_5_code (5 : Nat) (Option.some Jvm.ClassFile.FieldType.int) [((0 : Nat), (6 : Nat), (7 : Nat), (16 : Nat))]) ∈ TW := TWm 287 (by decide +kernel) (by decide +kernel)
theorem mw_872 : (Jvm.Cond.methodLink "CrossedSheetLaw" (182 : Nat) ({ cls := "CrossedSheetLaw", name := "tryFind", desc := "(LCrossedSheet;IIJ)I" } : Jvm.MethodName)) ∈ TW := TWm 872 (by decide +kernel) (by decide +kernel)
theorem mw_873 : (Jvm.Cond.static ({ cls := "CrossedSheetLaw", name := "tryFind", desc := "(LCrossedSheet;IIJ)I" } : Jvm.MethodName)) ∈ TW := TWm 873 (by decide +kernel) (by decide +kernel)
theorem mw_874 : (Jvm.Cond.codeWith ({ cls := "CrossedSheetLaw", name := "tryFind", desc := "(LCrossedSheet;IIJ)I" } : Jvm.MethodName) method_3_code (6 : Nat) (Option.some Jvm.ClassFile.FieldType.int) [((0 : Nat), (7 : Nat), (8 : Nat), (13 : Nat)), ((0 : Nat), (7 : Nat), (13 : Nat), (16 : Nat))]) ∈ TW := TWm 874 (by decide +kernel) (by decide +kernel)
theorem mw_920 : (Jvm.Cond.methodLink "CrossedSheetLaw" (198 : Nat) ({ cls := "CrossedSheetLaw", name := "tryScript", desc := "(LCrossedSheet;IJ)I" } : Jvm.MethodName)) ∈ TW := TWm 920 (by decide +kernel) (by decide +kernel)
theorem mw_921 : (Jvm.Cond.static ({ cls := "CrossedSheetLaw", name := "tryScript", desc := "(LCrossedSheet;IJ)I" } : Jvm.MethodName)) ∈ TW := TWm 921 (by decide +kernel) (by decide +kernel)
theorem mw_922 : (Jvm.Cond.codeWith ({ cls := "CrossedSheetLaw", name := "tryScript", desc := "(LCrossedSheet;IJ)I" } : Jvm.MethodName) method_4_code (5 : Nat) (Option.some Jvm.ClassFile.FieldType.int) [((0 : Nat), (6 : Nat), (7 : Nat), (16 : Nat))]) ∈ TW := TWm 922 (by decide +kernel) (by decide +kernel)
theorem mw_962 : (Jvm.Cond.constantLong "CrossedSheetLaw" (210 : Nat) (100000 : Int64)) ∈ TW := TWm 962 (by decide +kernel) (by decide +kernel)
theorem mw_972 : (Jvm.Cond.methodLink "CrossedSheetLaw" (224 : Nat) ({ cls := "CrossedSheetLaw", name := "tryWrite", desc := "(LCrossedSheet;IIIII)I" } : Jvm.MethodName)) ∈ TW := TWm 972 (by decide +kernel) (by decide +kernel)
theorem mw_973 : (Jvm.Cond.static ({ cls := "CrossedSheetLaw", name := "tryWrite", desc := "(LCrossedSheet;IIIII)I" } : Jvm.MethodName)) ∈ TW := TWm 973 (by decide +kernel) (by decide +kernel)
theorem mw_974 : (Jvm.Cond.codeWith ({ cls := "CrossedSheetLaw", name := "tryWrite", desc := "(LCrossedSheet;IIIII)I" } : Jvm.MethodName) method_2_code (7 : Nat) (Option.some Jvm.ClassFile.FieldType.int) [((0 : Nat), (11 : Nat), (12 : Nat), (13 : Nat)), ((0 : Nat), (11 : Nat), (17 : Nat), (16 : Nat)), ((0 : Nat), (11 : Nat), (22 : Nat), (19 : Nat))]) ∈ TW := TWm 974 (by decide +kernel) (by decide +kernel)
theorem mw_980 : (Jvm.Cond.constantLong "CrossedSheetLaw" (227 : Nat) (2700 : Int64)) ∈ TW := TWm 980 (by decide +kernel) (by decide +kernel)
theorem mw_981 : (Jvm.Cond.constantLong "CrossedSheetLaw" (229 : Nat) (-1 : Int64)) ∈ TW := TWm 981 (by decide +kernel) (by decide +kernel)
theorem ys_L_tryFind : yL_tryFind.cls ≠ "java/lang/invoke/MethodHandle" ∧ yL_tryFind.cls ≠ "java/lang/invoke/VarHandle" ∧ (parseMethodDescriptor yL_tryFind.desc).map (fun d => d.parameters.length) = some 4 := by decide +kernel
theorem ys_L_tryScript : yL_tryScript.cls ≠ "java/lang/invoke/MethodHandle" ∧ yL_tryScript.cls ≠ "java/lang/invoke/VarHandle" ∧ (parseMethodDescriptor yL_tryScript.desc).map (fun d => d.parameters.length) = some 3 := by decide +kernel
theorem ys_L_trySimulate : yL_trySimulate.cls ≠ "java/lang/invoke/MethodHandle" ∧ yL_trySimulate.cls ≠ "java/lang/invoke/VarHandle" ∧ (parseMethodDescriptor yL_trySimulate.desc).map (fun d => d.parameters.length) = some 3 := by decide +kernel
theorem ys_L_tryWrite : yL_tryWrite.cls ≠ "java/lang/invoke/MethodHandle" ∧ yL_tryWrite.cls ≠ "java/lang/invoke/VarHandle" ∧ (parseMethodDescriptor yL_tryWrite.desc).map (fun d => d.parameters.length) = some 6 := by decide +kernel
theorem cw_L_182 : GoodIn TW (va_wsS RL 182 yL_tryFind (.codeWith yL_tryFind cL_tryFind 6 (some .int) [(0, 7, 8, 13), (0, 7, 13, 16)] :: TW)) := zGSW mw_872 mw_873 mw_25 mw_874
theorem cw_L_198 : GoodIn TW (va_wsS RL 198 yL_tryScript (.codeWith yL_tryScript cL_tryScript 5 (some .int) [(0, 6, 7, 16)] :: TW)) := zGSW mw_920 mw_921 mw_25 mw_922
theorem cw_L_224 : GoodIn TW (va_wsS RL 224 yL_tryWrite (.codeWith yL_tryWrite cL_tryWrite 7 (some .int) [(0, 11, 12, 13), (0, 11, 17, 16), (0, 11, 22, 19)] :: TW)) := zGSW mw_972 mw_973 mw_25 mw_974
theorem cw_L_231 : GoodIn TW (va_wsS RL 231 yL_trySimulate (.codeWith yL_trySimulate cL_trySimulate 5 (some .int) [(0, 6, 7, 16)] :: TW)) := zGSW mw_285 mw_286 mw_25 mw_287
theorem dL_fails_0 : decode cL_fails 0 = .ok (.aload_n 0, 1) := by decide +kernel
theorem dL_fails_1 : decode cL_fails 1 = .ok (.iconst 0, 1) := by decide +kernel
theorem dL_fails_2 : decode cL_fails 2 = .ok (.invokestatic 180, 3) := by decide +kernel
theorem dL_fails_5 : decode cL_fails 5 = .ok (.istore_n 2, 1) := by decide +kernel
theorem dL_fails_6 : decode cL_fails 6 = .ok (.aload_n 0, 1) := by decide +kernel
theorem dL_fails_7 : decode cL_fails 7 = .ok (.iconst 1, 1) := by decide +kernel
theorem dL_fails_8 : decode cL_fails 8 = .ok (.invokestatic 180, 3) := by decide +kernel
theorem dL_fails_11 : decode cL_fails 11 = .ok (.istore_n 3, 1) := by decide +kernel
theorem dL_fails_12 : decode cL_fails 12 = .ok (.aload_n 0, 1) := by decide +kernel
theorem dL_fails_13 : decode cL_fails 13 = .ok (.iconst 0, 1) := by decide +kernel
theorem dL_fails_14 : decode cL_fails 14 = .ok (.sipush 256, 3) := by decide +kernel
theorem dL_fails_17 : decode cL_fails 17 = .ok (.iload_n 1, 1) := by decide +kernel
theorem dL_fails_18 : decode cL_fails 18 = .ok (.bipush 9, 2) := by decide +kernel
theorem dL_fails_20 : decode cL_fails 20 = .ok (.irem, 1) := by decide +kernel
theorem dL_fails_21 : decode cL_fails 21 = .ok (.iadd, 1) := by decide +kernel
theorem dL_fails_22 : decode cL_fails 22 = .ok (.iconst 0, 1) := by decide +kernel
theorem dL_fails_23 : decode cL_fails 23 = .ok (.iconst 0, 1) := by decide +kernel
theorem dL_fails_24 : decode cL_fails 24 = .ok (.iconst 0, 1) := by decide +kernel
theorem dL_fails_25 : decode cL_fails 25 = .ok (.invokestatic 174, 3) := by decide +kernel
theorem dL_fails_28 : decode cL_fails 28 = .ok (.ldc 18, 2) := by decide +kernel
theorem dL_fails_30 : decode cL_fails 30 = .ok (.if_icmp .ne 88, 3) := by decide +kernel
theorem dL_fails_33 : decode cL_fails 33 = .ok (.aload_n 0, 1) := by decide +kernel
theorem dL_fails_34 : decode cL_fails 34 = .ok (.bipush 10, 2) := by decide +kernel
theorem dL_fails_36 : decode cL_fails 36 = .ok (.invokestatic 180, 3) := by decide +kernel
theorem dL_fails_39 : decode cL_fails 39 = .ok (.ldc 18, 2) := by decide +kernel
theorem dL_fails_41 : decode cL_fails 41 = .ok (.if_icmp .ne 77, 3) := by decide +kernel
theorem dL_fails_44 : decode cL_fails 44 = .ok (.aload_n 0, 1) := by decide +kernel
theorem dL_fails_45 : decode cL_fails 45 = .ok (.iconst 3, 1) := by decide +kernel
theorem dL_fails_46 : decode cL_fails 46 = .ok (.iconst 2, 1) := by decide +kernel
theorem dL_fails_47 : decode cL_fails 47 = .ok (.iconst 0, 1) := by decide +kernel
theorem dL_fails_48 : decode cL_fails 48 = .ok (.iconst 0, 1) := by decide +kernel
theorem dL_fails_49 : decode cL_fails 49 = .ok (.iconst 0, 1) := by decide +kernel
theorem dL_fails_50 : decode cL_fails 50 = .ok (.invokestatic 174, 3) := by decide +kernel
theorem dL_fails_53 : decode cL_fails 53 = .ok (.ldc 15, 2) := by decide +kernel
theorem dL_fails_55 : decode cL_fails 55 = .ok (.if_icmp .ne 63, 3) := by decide +kernel
theorem dL_fails_58 : decode cL_fails 58 = .ok (.aload_n 0, 1) := by decide +kernel
theorem dL_fails_59 : decode cL_fails 59 = .ok (.iconst 3, 1) := by decide +kernel
theorem dL_fails_60 : decode cL_fails 60 = .ok (.iconst 0, 1) := by decide +kernel
theorem dL_fails_61 : decode cL_fails 61 = .ok (.iconst 5, 1) := by decide +kernel
theorem dL_fails_62 : decode cL_fails 62 = .ok (.iconst 0, 1) := by decide +kernel
theorem dL_fails_63 : decode cL_fails 63 = .ok (.iconst 0, 1) := by decide +kernel
theorem dL_fails_64 : decode cL_fails 64 = .ok (.invokestatic 174, 3) := by decide +kernel
theorem dL_fails_67 : decode cL_fails 67 = .ok (.ldc 18, 2) := by decide +kernel
theorem dL_fails_69 : decode cL_fails 69 = .ok (.if_icmp .ne 49, 3) := by decide +kernel
theorem dL_fails_72 : decode cL_fails 72 = .ok (.aload_n 0, 1) := by decide +kernel
theorem dL_fails_73 : decode cL_fails 73 = .ok (.iconst 4, 1) := by decide +kernel
theorem dL_fails_74 : decode cL_fails 74 = .ok (.iload_n 2, 1) := by decide +kernel
theorem dL_fails_75 : decode cL_fails 75 = .ok (.iconst 0, 1) := by decide +kernel
theorem dL_fails_76 : decode cL_fails 76 = .ok (.iconst 0, 1) := by decide +kernel
theorem dL_fails_77 : decode cL_fails 77 = .ok (.iconst 0, 1) := by decide +kernel
theorem dL_fails_78 : decode cL_fails 78 = .ok (.invokestatic 174, 3) := by decide +kernel
theorem dL_fails_81 : decode cL_fails 81 = .ok (.ldc 15, 2) := by decide +kernel
theorem dL_fails_83 : decode cL_fails 83 = .ok (.if_icmp .ne 35, 3) := by decide +kernel
theorem dL_fails_86 : decode cL_fails 86 = .ok (.aload_n 0, 1) := by decide +kernel
theorem dL_fails_87 : decode cL_fails 87 = .ok (.iconst 4, 1) := by decide +kernel
theorem dL_fails_88 : decode cL_fails 88 = .ok (.iconst 0, 1) := by decide +kernel
theorem dL_fails_89 : decode cL_fails 89 = .ok (.iload_n 3, 1) := by decide +kernel
theorem dL_fails_90 : decode cL_fails 90 = .ok (.iconst 0, 1) := by decide +kernel
theorem dL_fails_91 : decode cL_fails 91 = .ok (.iconst 0, 1) := by decide +kernel
theorem dL_fails_92 : decode cL_fails 92 = .ok (.invokestatic 174, 3) := by decide +kernel
theorem dL_fails_95 : decode cL_fails 95 = .ok (.ldc 15, 2) := by decide +kernel
theorem dL_fails_97 : decode cL_fails 97 = .ok (.if_icmp .ne 21, 3) := by decide +kernel
theorem dL_fails_100 : decode cL_fails 100 = .ok (.aload_n 0, 1) := by decide +kernel
theorem dL_fails_101 : decode cL_fails 101 = .ok (.iconst 5, 1) := by decide +kernel
theorem dL_fails_102 : decode cL_fails 102 = .ok (.iconst 0, 1) := by decide +kernel
theorem dL_fails_103 : decode cL_fails 103 = .ok (.iconst 0, 1) := by decide +kernel
theorem dL_fails_104 : decode cL_fails 104 = .ok (.iconst 2, 1) := by decide +kernel
theorem dL_fails_105 : decode cL_fails 105 = .ok (.iconst 0, 1) := by decide +kernel
theorem dL_fails_106 : decode cL_fails 106 = .ok (.invokestatic 174, 3) := by decide +kernel
theorem dL_fails_109 : decode cL_fails 109 = .ok (.ldc 15, 2) := by decide +kernel
theorem dL_fails_111 : decode cL_fails 111 = .ok (.if_icmp .ne 7, 3) := by decide +kernel
theorem dL_fails_114 : decode cL_fails 114 = .ok (.iconst 1, 1) := by decide +kernel
theorem dL_fails_115 : decode cL_fails 115 = .ok (.goto 4, 3) := by decide +kernel
theorem dL_fails_118 : decode cL_fails 118 = .ok (.iconst 0, 1) := by decide +kernel
theorem dL_fails_119 : decode cL_fails 119 = .ok (.istore 4, 2) := by decide +kernel
theorem dL_fails_121 : decode cL_fails 121 = .ok (.iload 4, 2) := by decide +kernel
theorem dL_fails_123 : decode cL_fails 123 = .ok (.aload_n 0, 1) := by decide +kernel
theorem dL_fails_124 : decode cL_fails 124 = .ok (.bipush 7, 2) := by decide +kernel
theorem dL_fails_126 : decode cL_fails 126 = .ok (.iconst 2, 1) := by decide +kernel
theorem dL_fails_127 : decode cL_fails 127 = .ok (.iconst 0, 1) := by decide +kernel
theorem dL_fails_128 : decode cL_fails 128 = .ok (.iconst 0, 1) := by decide +kernel
theorem dL_fails_129 : decode cL_fails 129 = .ok (.iconst 0, 1) := by decide +kernel
theorem dL_fails_130 : decode cL_fails 130 = .ok (.invokestatic 174, 3) := by decide +kernel
theorem dL_fails_133 : decode cL_fails 133 = .ok (.ldc 15, 2) := by decide +kernel
theorem dL_fails_135 : decode cL_fails 135 = .ok (.if_icmp .ne 95, 3) := by decide +kernel
theorem dL_fails_138 : decode cL_fails 138 = .ok (.aload_n 0, 1) := by decide +kernel
theorem dL_fails_139 : decode cL_fails 139 = .ok (.bipush 8, 2) := by decide +kernel
theorem dL_fails_141 : decode cL_fails 141 = .ok (.iconst 0, 1) := by decide +kernel
theorem dL_fails_142 : decode cL_fails 142 = .ok (.iload_n 2, 1) := by decide +kernel
theorem dL_fails_143 : decode cL_fails 143 = .ok (.iconst 0, 1) := by decide +kernel
theorem dL_fails_144 : decode cL_fails 144 = .ok (.iconst 0, 1) := by decide +kernel
theorem dL_fails_145 : decode cL_fails 145 = .ok (.invokestatic 174, 3) := by decide +kernel
theorem dL_fails_148 : decode cL_fails 148 = .ok (.ldc 15, 2) := by decide +kernel
theorem dL_fails_150 : decode cL_fails 150 = .ok (.if_icmp .ne 80, 3) := by decide +kernel
theorem dL_fails_153 : decode cL_fails 153 = .ok (.aload_n 0, 1) := by decide +kernel
theorem dL_fails_154 : decode cL_fails 154 = .ok (.bipush 8, 2) := by decide +kernel
theorem dL_fails_156 : decode cL_fails 156 = .ok (.iconst 2, 1) := by decide +kernel
theorem dL_fails_157 : decode cL_fails 157 = .ok (.iconst 0, 1) := by decide +kernel
theorem dL_fails_158 : decode cL_fails 158 = .ok (.iconst 0, 1) := by decide +kernel
theorem dL_fails_159 : decode cL_fails 159 = .ok (.iconst 0, 1) := by decide +kernel
theorem dL_fails_160 : decode cL_fails 160 = .ok (.invokestatic 174, 3) := by decide +kernel
theorem dL_fails_163 : decode cL_fails 163 = .ok (.ldc 15, 2) := by decide +kernel
theorem dL_fails_165 : decode cL_fails 165 = .ok (.if_icmp .ne 65, 3) := by decide +kernel
theorem dL_fails_168 : decode cL_fails 168 = .ok (.aload_n 0, 1) := by decide +kernel
theorem dL_fails_169 : decode cL_fails 169 = .ok (.iload_n 2, 1) := by decide +kernel
theorem dL_fails_170 : decode cL_fails 170 = .ok (.iconst 0, 1) := by decide +kernel
theorem dL_fails_171 : decode cL_fails 171 = .ok (.iconst 0, 1) := by decide +kernel
theorem dL_fails_172 : decode cL_fails 172 = .ok (.iconst 0, 1) := by decide +kernel
theorem dL_fails_173 : decode cL_fails 173 = .ok (.iconst 0, 1) := by decide +kernel
theorem dL_fails_174 : decode cL_fails 174 = .ok (.invokestatic 224, 3) := by decide +kernel
theorem dL_fails_177 : decode cL_fails 177 = .ok (.ldc 15, 2) := by decide +kernel
theorem dL_fails_179 : decode cL_fails 179 = .ok (.if_icmp .ne 51, 3) := by decide +kernel
theorem dL_fails_182 : decode cL_fails 182 = .ok (.aload_n 0, 1) := by decide +kernel
theorem dL_fails_183 : decode cL_fails 183 = .ok (.iconst 0, 1) := by decide +kernel
theorem dL_fails_184 : decode cL_fails 184 = .ok (.iconst 0, 1) := by decide +kernel
theorem dL_fails_185 : decode cL_fails 185 = .ok (.bipush 27, 2) := by decide +kernel
theorem dL_fails_187 : decode cL_fails 187 = .ok (.iconst 0, 1) := by decide +kernel
theorem dL_fails_188 : decode cL_fails 188 = .ok (.iconst 0, 1) := by decide +kernel
theorem dL_fails_189 : decode cL_fails 189 = .ok (.invokestatic 224, 3) := by decide +kernel
theorem dL_fails_192 : decode cL_fails 192 = .ok (.ldc 18, 2) := by decide +kernel
theorem dL_fails_194 : decode cL_fails 194 = .ok (.if_icmp .ne 36, 3) := by decide +kernel
theorem dL_fails_197 : decode cL_fails 197 = .ok (.aload_n 0, 1) := by decide +kernel
theorem dL_fails_198 : decode cL_fails 198 = .ok (.iconst 0, 1) := by decide +kernel
theorem dL_fails_199 : decode cL_fails 199 = .ok (.iconst 0, 1) := by decide +kernel
theorem dL_fails_200 : decode cL_fails 200 = .ok (.iconst 0, 1) := by decide +kernel
theorem dL_fails_201 : decode cL_fails 201 = .ok (.iconst 4, 1) := by decide +kernel
theorem dL_fails_202 : decode cL_fails 202 = .ok (.iconst 0, 1) := by decide +kernel
theorem dL_fails_203 : decode cL_fails 203 = .ok (.invokestatic 224, 3) := by decide +kernel
theorem dL_fails_206 : decode cL_fails 206 = .ok (.ldc 18, 2) := by decide +kernel
theorem dL_fails_208 : decode cL_fails 208 = .ok (.if_icmp .ne 22, 3) := by decide +kernel
theorem dL_fails_211 : decode cL_fails 211 = .ok (.aload_n 0, 1) := by decide +kernel
theorem dL_fails_212 : decode cL_fails 212 = .ok (.iconst 0, 1) := by decide +kernel
theorem dL_fails_213 : decode cL_fails 213 = .ok (.iconst 0, 1) := by decide +kernel
theorem dL_fails_214 : decode cL_fails 214 = .ok (.iconst 0, 1) := by decide +kernel
theorem dL_fails_215 : decode cL_fails 215 = .ok (.iconst 0, 1) := by decide +kernel
theorem dL_fails_216 : decode cL_fails 216 = .ok (.bipush 9, 2) := by decide +kernel
theorem dL_fails_218 : decode cL_fails 218 = .ok (.invokestatic 224, 3) := by decide +kernel
theorem dL_fails_221 : decode cL_fails 221 = .ok (.ldc 18, 2) := by decide +kernel
theorem dL_fails_223 : decode cL_fails 223 = .ok (.if_icmp .ne 7, 3) := by decide +kernel
theorem dL_fails_226 : decode cL_fails 226 = .ok (.iconst 1, 1) := by decide +kernel
theorem dL_fails_227 : decode cL_fails 227 = .ok (.goto 4, 3) := by decide +kernel
theorem dL_fails_230 : decode cL_fails 230 = .ok (.iconst 0, 1) := by decide +kernel
theorem dL_fails_231 : decode cL_fails 231 = .ok (.iand, 1) := by decide +kernel
theorem dL_fails_232 : decode cL_fails 232 = .ok (.istore 4, 2) := by decide +kernel
theorem dL_fails_234 : decode cL_fails 234 = .ok (.iload 4, 2) := by decide +kernel
theorem dL_fails_236 : decode cL_fails 236 = .ok (.aload_n 0, 1) := by decide +kernel
theorem dL_fails_237 : decode cL_fails 237 = .ok (.bipush 9, 2) := by decide +kernel
theorem dL_fails_239 : decode cL_fails 239 = .ok (.iconst 0, 1) := by decide +kernel
theorem dL_fails_240 : decode cL_fails 240 = .ok (.iload_n 3, 1) := by decide +kernel
theorem dL_fails_241 : decode cL_fails 241 = .ok (.iconst 0, 1) := by decide +kernel
theorem dL_fails_242 : decode cL_fails 242 = .ok (.iconst 0, 1) := by decide +kernel
theorem dL_fails_243 : decode cL_fails 243 = .ok (.invokestatic 174, 3) := by decide +kernel
theorem dL_fails_246 : decode cL_fails 246 = .ok (.ldc 15, 2) := by decide +kernel
theorem dL_fails_248 : decode cL_fails 248 = .ok (.if_icmp .ne 98, 3) := by decide +kernel
theorem dL_fails_251 : decode cL_fails 251 = .ok (.aload_n 0, 1) := by decide +kernel
theorem dL_fails_252 : decode cL_fails 252 = .ok (.bipush 10, 2) := by decide +kernel
theorem dL_fails_254 : decode cL_fails 254 = .ok (.iconst 0, 1) := by decide +kernel
theorem dL_fails_255 : decode cL_fails 255 = .ok (.iconst 0, 1) := by decide +kernel
theorem dL_fails_256 : decode cL_fails 256 = .ok (.iconst 2, 1) := by decide +kernel
theorem dL_fails_257 : decode cL_fails 257 = .ok (.iconst 0, 1) := by decide +kernel
theorem dL_fails_258 : decode cL_fails 258 = .ok (.invokestatic 174, 3) := by decide +kernel
theorem dL_fails_261 : decode cL_fails 261 = .ok (.ldc 15, 2) := by decide +kernel
theorem dL_fails_263 : decode cL_fails 263 = .ok (.if_icmp .ne 83, 3) := by decide +kernel
theorem dL_fails_266 : decode cL_fails 266 = .ok (.aload_n 0, 1) := by decide +kernel
theorem dL_fails_267 : decode cL_fails 267 = .ok (.bipush 11, 2) := by decide +kernel
theorem dL_fails_269 : decode cL_fails 269 = .ok (.iconst 2, 1) := by decide +kernel
theorem dL_fails_270 : decode cL_fails 270 = .ok (.iconst 0, 1) := by decide +kernel
theorem dL_fails_271 : decode cL_fails 271 = .ok (.iconst 0, 1) := by decide +kernel
theorem dL_fails_272 : decode cL_fails 272 = .ok (.iconst 0, 1) := by decide +kernel
theorem dL_fails_273 : decode cL_fails 273 = .ok (.invokestatic 174, 3) := by decide +kernel
theorem dL_fails_276 : decode cL_fails 276 = .ok (.ldc 15, 2) := by decide +kernel
theorem dL_fails_278 : decode cL_fails 278 = .ok (.if_icmp .ne 68, 3) := by decide +kernel
theorem dL_fails_281 : decode cL_fails 281 = .ok (.aload_n 0, 1) := by decide +kernel
theorem dL_fails_282 : decode cL_fails 282 = .ok (.bipush 11, 2) := by decide +kernel
theorem dL_fails_284 : decode cL_fails 284 = .ok (.iconst 0, 1) := by decide +kernel
theorem dL_fails_285 : decode cL_fails 285 = .ok (.iconst 4, 1) := by decide +kernel
theorem dL_fails_286 : decode cL_fails 286 = .ok (.iconst 0, 1) := by decide +kernel
theorem dL_fails_287 : decode cL_fails 287 = .ok (.iconst 0, 1) := by decide +kernel
theorem dL_fails_288 : decode cL_fails 288 = .ok (.invokestatic 174, 3) := by decide +kernel
theorem dL_fails_291 : decode cL_fails 291 = .ok (.ldc 18, 2) := by decide +kernel
theorem dL_fails_293 : decode cL_fails 293 = .ok (.if_icmp .ne 53, 3) := by decide +kernel
theorem dL_fails_296 : decode cL_fails 296 = .ok (.aload_n 0, 1) := by decide +kernel
theorem dL_fails_297 : decode cL_fails 297 = .ok (.bipush 11, 2) := by decide +kernel
theorem dL_fails_299 : decode cL_fails 299 = .ok (.iconst 1, 1) := by decide +kernel
theorem dL_fails_300 : decode cL_fails 300 = .ok (.iconst 0, 1) := by decide +kernel
theorem dL_fails_301 : decode cL_fails 301 = .ok (.iconst 0, 1) := by decide +kernel
theorem dL_fails_302 : decode cL_fails 302 = .ok (.iconst 2, 1) := by decide +kernel
theorem dL_fails_303 : decode cL_fails 303 = .ok (.invokestatic 174, 3) := by decide +kernel
theorem dL_fails_306 : decode cL_fails 306 = .ok (.ldc 18, 2) := by decide +kernel
theorem dL_fails_308 : decode cL_fails 308 = .ok (.if_icmp .ne 38, 3) := by decide +kernel
theorem dL_fails_311 : decode cL_fails 311 = .ok (.aload_n 0, 1) := by decide +kernel
theorem dL_fails_312 : decode cL_fails 312 = .ok (.bipush 12, 2) := by decide +kernel
theorem dL_fails_314 : decode cL_fails 314 = .ok (.bipush 10, 2) := by decide +kernel
theorem dL_fails_316 : decode cL_fails 316 = .ok (.iconst 0, 1) := by decide +kernel
theorem dL_fails_317 : decode cL_fails 317 = .ok (.iconst 0, 1) := by decide +kernel
theorem dL_fails_318 : decode cL_fails 318 = .ok (.iconst 0, 1) := by decide +kernel
theorem dL_fails_319 : decode cL_fails 319 = .ok (.invokestatic 174, 3) := by decide +kernel
theorem dL_fails_322 : decode cL_fails 322 = .ok (.ldc 18, 2) := by decide +kernel
theorem dL_fails_324 : decode cL_fails 324 = .ok (.if_icmp .ne 22, 3) := by decide +kernel
theorem dL_fails_327 : decode cL_fails 327 = .ok (.aload_n 0, 1) := by decide +kernel
theorem dL_fails_328 : decode cL_fails 328 = .ok (.bipush 13, 2) := by decide +kernel
theorem dL_fails_330 : decode cL_fails 330 = .ok (.iconst 0, 1) := by decide +kernel
theorem dL_fails_331 : decode cL_fails 331 = .ok (.iconst 0, 1) := by decide +kernel
theorem dL_fails_332 : decode cL_fails 332 = .ok (.iconst 0, 1) := by decide +kernel
theorem dL_fails_333 : decode cL_fails 333 = .ok (.iconst 0, 1) := by decide +kernel
theorem dL_fails_334 : decode cL_fails 334 = .ok (.invokestatic 174, 3) := by decide +kernel
theorem dL_fails_337 : decode cL_fails 337 = .ok (.ldc 18, 2) := by decide +kernel
theorem dL_fails_339 : decode cL_fails 339 = .ok (.if_icmp .ne 7, 3) := by decide +kernel
theorem dL_fails_342 : decode cL_fails 342 = .ok (.iconst 1, 1) := by decide +kernel
theorem dL_fails_343 : decode cL_fails 343 = .ok (.goto 4, 3) := by decide +kernel
theorem dL_fails_346 : decode cL_fails 346 = .ok (.iconst 0, 1) := by decide +kernel
theorem dL_fails_347 : decode cL_fails 347 = .ok (.iand, 1) := by decide +kernel
theorem dL_fails_348 : decode cL_fails 348 = .ok (.istore 4, 2) := by decide +kernel
theorem dL_fails_350 : decode cL_fails 350 = .ok (.iload 4, 2) := by decide +kernel
theorem dL_fails_352 : decode cL_fails 352 = .ok (.aload_n 0, 1) := by decide +kernel
theorem dL_fails_353 : decode cL_fails 353 = .ok (.iconst 2, 1) := by decide +kernel
theorem dL_fails_354 : decode cL_fails 354 = .ok (.iconst 1, 1) := by decide +kernel
theorem dL_fails_355 : decode cL_fails 355 = .ok (.lconst 0, 1) := by decide +kernel
theorem dL_fails_356 : decode cL_fails 356 = .ok (.invokestatic 182, 3) := by decide +kernel
theorem dL_fails_359 : decode cL_fails 359 = .ok (.ldc 15, 2) := by decide +kernel
theorem dL_fails_361 : decode cL_fails 361 = .ok (.if_icmp .ne 125, 3) := by decide +kernel
theorem dL_fails_364 : decode cL_fails 364 = .ok (.aload_n 0, 1) := by decide +kernel
theorem dL_fails_365 : decode cL_fails 365 = .ok (.iconst 0, 1) := by decide +kernel
theorem dL_fails_366 : decode cL_fails 366 = .ok (.bipush 9, 2) := by decide +kernel
theorem dL_fails_368 : decode cL_fails 368 = .ok (.lconst 0, 1) := by decide +kernel
theorem dL_fails_369 : decode cL_fails 369 = .ok (.invokestatic 182, 3) := by decide +kernel
theorem dL_fails_372 : decode cL_fails 372 = .ok (.ldc 18, 2) := by decide +kernel
theorem dL_fails_374 : decode cL_fails 374 = .ok (.if_icmp .ne 112, 3) := by decide +kernel
theorem dL_fails_377 : decode cL_fails 377 = .ok (.aload_n 0, 1) := by decide +kernel
theorem dL_fails_378 : decode cL_fails 378 = .ok (.iconst 0, 1) := by decide +kernel
theorem dL_fails_379 : decode cL_fails 379 = .ok (.iconst 2, 1) := by decide +kernel
theorem dL_fails_380 : decode cL_fails 380 = .ok (.ldc2_w 227, 3) := by decide +kernel
theorem dL_fails_383 : decode cL_fails 383 = .ok (.invokestatic 182, 3) := by decide +kernel
theorem dL_fails_386 : decode cL_fails 386 = .ok (.ldc 18, 2) := by decide +kernel
theorem dL_fails_388 : decode cL_fails 388 = .ok (.if_icmp .ne 98, 3) := by decide +kernel
theorem dL_fails_391 : decode cL_fails 391 = .ok (.aload_n 0, 1) := by decide +kernel
theorem dL_fails_392 : decode cL_fails 392 = .ok (.bipush 15, 2) := by decide +kernel
theorem dL_fails_394 : decode cL_fails 394 = .ok (.iconst 0, 1) := by decide +kernel
theorem dL_fails_395 : decode cL_fails 395 = .ok (.bipush 27, 2) := by decide +kernel
theorem dL_fails_397 : decode cL_fails 397 = .ok (.iconst 0, 1) := by decide +kernel
theorem dL_fails_398 : decode cL_fails 398 = .ok (.iconst 0, 1) := by decide +kernel
theorem dL_fails_399 : decode cL_fails 399 = .ok (.invokestatic 174, 3) := by decide +kernel
theorem dL_fails_402 : decode cL_fails 402 = .ok (.ldc 18, 2) := by decide +kernel
theorem dL_fails_404 : decode cL_fails 404 = .ok (.if_icmp .ne 82, 3) := by decide +kernel
theorem dL_fails_407 : decode cL_fails 407 = .ok (.aload_n 0, 1) := by decide +kernel
theorem dL_fails_408 : decode cL_fails 408 = .ok (.bipush 16, 2) := by decide +kernel
theorem dL_fails_410 : decode cL_fails 410 = .ok (.iconst 2, 1) := by decide +kernel
theorem dL_fails_411 : decode cL_fails 411 = .ok (.iconst 0, 1) := by decide +kernel
theorem dL_fails_412 : decode cL_fails 412 = .ok (.iconst 0, 1) := by decide +kernel
theorem dL_fails_413 : decode cL_fails 413 = .ok (.iconst 0, 1) := by decide +kernel
theorem dL_fails_414 : decode cL_fails 414 = .ok (.invokestatic 174, 3) := by decide +kernel
theorem dL_fails_417 : decode cL_fails 417 = .ok (.ldc 15, 2) := by decide +kernel
theorem dL_fails_419 : decode cL_fails 419 = .ok (.if_icmp .ne 67, 3) := by decide +kernel
theorem dL_fails_422 : decode cL_fails 422 = .ok (.aload_n 0, 1) := by decide +kernel
theorem dL_fails_423 : decode cL_fails 423 = .ok (.bipush 17, 2) := by decide +kernel
theorem dL_fails_425 : decode cL_fails 425 = .ok (.iconst (-1), 1) := by decide +kernel
theorem dL_fails_426 : decode cL_fails 426 = .ok (.iconst 0, 1) := by decide +kernel
theorem dL_fails_427 : decode cL_fails 427 = .ok (.iconst 0, 1) := by decide +kernel
theorem dL_fails_428 : decode cL_fails 428 = .ok (.iconst 0, 1) := by decide +kernel
theorem dL_fails_429 : decode cL_fails 429 = .ok (.invokestatic 174, 3) := by decide +kernel
theorem dL_fails_432 : decode cL_fails 432 = .ok (.ldc 15, 2) := by decide +kernel
theorem dL_fails_434 : decode cL_fails 434 = .ok (.if_icmp .ne 52, 3) := by decide +kernel
theorem dL_fails_437 : decode cL_fails 437 = .ok (.aload_n 0, 1) := by decide +kernel
theorem dL_fails_438 : decode cL_fails 438 = .ok (.bipush 18, 2) := by decide +kernel
theorem dL_fails_440 : decode cL_fails 440 = .ok (.iconst 0, 1) := by decide +kernel
theorem dL_fails_441 : decode cL_fails 441 = .ok (.iconst 4, 1) := by decide +kernel
theorem dL_fails_442 : decode cL_fails 442 = .ok (.iconst 0, 1) := by decide +kernel
theorem dL_fails_443 : decode cL_fails 443 = .ok (.iconst 0, 1) := by decide +kernel
theorem dL_fails_444 : decode cL_fails 444 = .ok (.invokestatic 174, 3) := by decide +kernel
theorem dL_fails_447 : decode cL_fails 447 = .ok (.ldc 18, 2) := by decide +kernel
theorem dL_fails_449 : decode cL_fails 449 = .ok (.if_icmp .ne 37, 3) := by decide +kernel
theorem dL_fails_452 : decode cL_fails 452 = .ok (.aload_n 0, 1) := by decide +kernel
theorem dL_fails_453 : decode cL_fails 453 = .ok (.bipush 19, 2) := by decide +kernel
theorem dL_fails_455 : decode cL_fails 455 = .ok (.iconst 2, 1) := by decide +kernel
theorem dL_fails_456 : decode cL_fails 456 = .ok (.iconst 0, 1) := by decide +kernel
theorem dL_fails_457 : decode cL_fails 457 = .ok (.iconst 0, 1) := by decide +kernel
theorem dL_fails_458 : decode cL_fails 458 = .ok (.iconst 0, 1) := by decide +kernel
theorem dL_fails_459 : decode cL_fails 459 = .ok (.invokestatic 174, 3) := by decide +kernel
theorem dL_fails_462 : decode cL_fails 462 = .ok (.ldc 15, 2) := by decide +kernel
theorem dL_fails_464 : decode cL_fails 464 = .ok (.if_icmp .ne 22, 3) := by decide +kernel
theorem dL_fails_467 : decode cL_fails 467 = .ok (.aload_n 0, 1) := by decide +kernel
theorem dL_fails_468 : decode cL_fails 468 = .ok (.bipush 20, 2) := by decide +kernel
theorem dL_fails_470 : decode cL_fails 470 = .ok (.iconst (-1), 1) := by decide +kernel
theorem dL_fails_471 : decode cL_fails 471 = .ok (.iconst 0, 1) := by decide +kernel
theorem dL_fails_472 : decode cL_fails 472 = .ok (.iconst 0, 1) := by decide +kernel
theorem dL_fails_473 : decode cL_fails 473 = .ok (.iconst 0, 1) := by decide +kernel
theorem dL_fails_474 : decode cL_fails 474 = .ok (.invokestatic 174, 3) := by decide +kernel
theorem dL_fails_477 : decode cL_fails 477 = .ok (.ldc 15, 2) := by decide +kernel
theorem dL_fails_479 : decode cL_fails 479 = .ok (.if_icmp .ne 7, 3) := by decide +kernel
theorem dL_fails_482 : decode cL_fails 482 = .ok (.iconst 1, 1) := by decide +kernel
theorem dL_fails_483 : decode cL_fails 483 = .ok (.goto 4, 3) := by decide +kernel
theorem dL_fails_486 : decode cL_fails 486 = .ok (.iconst 0, 1) := by decide +kernel
theorem dL_fails_487 : decode cL_fails 487 = .ok (.iand, 1) := by decide +kernel
theorem dL_fails_488 : decode cL_fails 488 = .ok (.istore 4, 2) := by decide +kernel
theorem dL_fails_490 : decode cL_fails 490 = .ok (.iload 4, 2) := by decide +kernel
theorem dL_fails_492 : decode cL_fails 492 = .ok (.ifCond .eq 69, 3) := by decide +kernel
theorem dL_fails_495 : decode cL_fails 495 = .ok (.aload_n 0, 1) := by decide +kernel
theorem dL_fails_496 : decode cL_fails 496 = .ok (.iconst 4, 1) := by decide +kernel
theorem dL_fails_497 : decode cL_fails 497 = .ok (.lconst 0, 1) := by decide +kernel
theorem dL_fails_498 : decode cL_fails 498 = .ok (.invokestatic 198, 3) := by decide +kernel
theorem dL_fails_501 : decode cL_fails 501 = .ok (.ldc 18, 2) := by decide +kernel
theorem dL_fails_503 : decode cL_fails 503 = .ok (.if_icmp .ne 58, 3) := by decide +kernel
theorem dL_fails_506 : decode cL_fails 506 = .ok (.aload_n 0, 1) := by decide +kernel
theorem dL_fails_507 : decode cL_fails 507 = .ok (.iconst 1, 1) := by decide +kernel
theorem dL_fails_508 : decode cL_fails 508 = .ok (.ldc2_w 210, 3) := by decide +kernel
theorem dL_fails_511 : decode cL_fails 511 = .ok (.invokestatic 198, 3) := by decide +kernel
theorem dL_fails_514 : decode cL_fails 514 = .ok (.ldc 18, 2) := by decide +kernel
theorem dL_fails_516 : decode cL_fails 516 = .ok (.if_icmp .ne 45, 3) := by decide +kernel
theorem dL_fails_519 : decode cL_fails 519 = .ok (.aload_n 0, 1) := by decide +kernel
theorem dL_fails_520 : decode cL_fails 520 = .ok (.iconst 2, 1) := by decide +kernel
theorem dL_fails_521 : decode cL_fails 521 = .ok (.ldc2_w 229, 3) := by decide +kernel
theorem dL_fails_524 : decode cL_fails 524 = .ok (.invokestatic 198, 3) := by decide +kernel
theorem dL_fails_527 : decode cL_fails 527 = .ok (.ldc 18, 2) := by decide +kernel
theorem dL_fails_529 : decode cL_fails 529 = .ok (.if_icmp .ne 32, 3) := by decide +kernel
theorem dL_fails_532 : decode cL_fails 532 = .ok (.aload_n 0, 1) := by decide +kernel
theorem dL_fails_533 : decode cL_fails 533 = .ok (.iload_n 1, 1) := by decide +kernel
theorem dL_fails_534 : decode cL_fails 534 = .ok (.i2l, 1) := by decide +kernel
theorem dL_fails_535 : decode cL_fails 535 = .ok (.iconst 0, 1) := by decide +kernel
theorem dL_fails_536 : decode cL_fails 536 = .ok (.invokestatic 231, 3) := by decide +kernel
theorem dL_fails_539 : decode cL_fails 539 = .ok (.ldc 18, 2) := by decide +kernel
theorem dL_fails_541 : decode cL_fails 541 = .ok (.if_icmp .ne 20, 3) := by decide +kernel
theorem dL_fails_544 : decode cL_fails 544 = .ok (.aload_n 0, 1) := by decide +kernel
theorem dL_fails_545 : decode cL_fails 545 = .ok (.iload_n 1, 1) := by decide +kernel
theorem dL_fails_546 : decode cL_fails 546 = .ok (.i2l, 1) := by decide +kernel
theorem dL_fails_547 : decode cL_fails 547 = .ok (.bipush 100, 2) := by decide +kernel
theorem dL_fails_549 : decode cL_fails 549 = .ok (.invokestatic 231, 3) := by decide +kernel
theorem dL_fails_552 : decode cL_fails 552 = .ok (.ldc 18, 2) := by decide +kernel
theorem dL_fails_554 : decode cL_fails 554 = .ok (.if_icmp .ne 7, 3) := by decide +kernel
theorem dL_fails_557 : decode cL_fails 557 = .ok (.iconst 1, 1) := by decide +kernel
theorem dL_fails_558 : decode cL_fails 558 = .ok (.goto 4, 3) := by decide +kernel
theorem dL_fails_561 : decode cL_fails 561 = .ok (.iconst 0, 1) := by decide +kernel
theorem dL_fails_562 : decode cL_fails 562 = .ok (.ireturn, 1) := by decide +kernel
def FL_fails (T : zT) (p0 : Nat) (p1 : Int32) (h : zH) : Option (Int32 × zH × Nat) := zJ (fun (x1 : Int32) (x2 : Int32) (x3 : Int32) (h4 : zH) => zJ (fun (x6 : Int32) (x7 : Int32) (h8 : zH) => zJ (fun (x10 : Int32) (x11 : Int32) (h12 : zH) => zJ (fun (x14 : Int32) (x15 : Int32) (h16 : zH) => zJ (fun (x18 : Int32) (h19 : zH) => if x18 = 0 ∨ x18 = 1 then some (x18, h19, 0) else none) (fun J20 => zJ (fun (h21 : zH) => J20 0 h21) (fun J22 => if (x15 &&& x14) = 0 then (J22 h16) else (zcn 2 (FL_tryScript T p0 4 (0 : Int64) h16) fun x24 h25 => if x24 = (-9999002 : Int32) then (zcn 2 (FL_tryScript T p0 1 (100000 : Int64) h25) fun x27 h28 => if x27 = (-9999002 : Int32) then (zcn 2 (FL_tryScript T p0 2 (-1 : Int64) h28) fun x30 h31 => if x30 = (-9999002 : Int32) then (zcn 1 (FL_trySimulate T p0 p1.toInt64 0 h31) fun x33 h34 => if x33 = (-9999002 : Int32) then (zcn 1 (FL_trySimulate T p0 p1.toInt64 100 h34) fun x36 h37 => if x36 = (-9999002 : Int32) then (J20 1 h37) else (J22 h37)) else (J22 h34)) else (J22 h31)) else (J22 h28)) else (J22 h25))))) (fun J17 => zJ (fun (x38 : Int32) (h39 : zH) => J17 0 x38 h39) (fun J40 => zcn 3 (FL_tryFind T p0 2 1 (0 : Int64) h12) fun x42 h43 => if x42 = (-9999001 : Int32) then (zcn 3 (FL_tryFind T p0 0 9 (0 : Int64) h43) fun x45 h46 => if x45 = (-9999002 : Int32) then (zcn 3 (FL_tryFind T p0 0 2 (2700 : Int64) h46) fun x48 h49 => if x48 = (-9999002 : Int32) then (zcl (FL_call T p0 15 0 27 0 0 h49) fun x51 h52 => if x51 = (-9999002 : Int32) then (zcl (FL_call T p0 16 2 0 0 0 h52) fun x55 h56 => if x55 = (-9999001 : Int32) then (zcl (FL_call T p0 17 (-1 : Int32) 0 0 0 h56) fun x59 h60 => if x59 = (-9999001 : Int32) then (zcl (FL_call T p0 18 0 4 0 0 h60) fun x63 h64 => if x63 = (-9999002 : Int32) then (zcl (FL_call T p0 19 2 0 0 0 h64) fun x67 h68 => if x67 = (-9999001 : Int32) then (zcl (FL_call T p0 20 (-1 : Int32) 0 0 0 h68) fun x71 h72 => if x71 = (-9999001 : Int32) then (J17 1 (x11 &&& x10) h72) else (J40 (x11 &&& x10) h72)) else (J40 (x11 &&& x10) h68)) else (J40 (x11 &&& x10) h64)) else (J40 (x11 &&& x10) h60)) else (J40 (x11 &&& x10) h56)) else (J40 (x11 &&& x10) h52)) else (J40 (x11 &&& x10) h49)) else (J40 (x11 &&& x10) h46)) else (J40 (x11 &&& x10) h43)))) (fun J13 => zJ (fun (x74 : Int32) (h75 : zH) => J13 0 x74 h75) (fun J76 => zcl (FL_call T p0 9 0 x2 0 0 h8) fun x78 h79 => if x78 = (-9999001 : Int32) then (zcl (FL_call T p0 10 0 0 2 0 h79) fun x82 h83 => if x82 = (-9999001 : Int32) then (zcl (FL_call T p0 11 2 0 0 0 h83) fun x86 h87 => if x86 = (-9999001 : Int32) then (zcl (FL_call T p0 11 0 4 0 0 h87) fun x90 h91 => if x90 = (-9999002 : Int32) then (zcl (FL_call T p0 11 1 0 0 2 h91) fun x94 h95 => if x94 = (-9999002 : Int32) then (zcl (FL_call T p0 12 10 0 0 0 h95) fun x98 h99 => if x98 = (-9999002 : Int32) then (zcl (FL_call T p0 13 0 0 0 0 h99) fun x102 h103 => if x102 = (-9999002 : Int32) then (J13 1 (x7 &&& x6) h103) else (J76 (x7 &&& x6) h103)) else (J76 (x7 &&& x6) h99)) else (J76 (x7 &&& x6) h95)) else (J76 (x7 &&& x6) h91)) else (J76 (x7 &&& x6) h87)) else (J76 (x7 &&& x6) h83)) else (J76 (x7 &&& x6) h79)))) (fun J9 => zJ (fun (x105 : Int32) (h106 : zH) => J9 0 x105 h106) (fun J107 => zcl (FL_call T p0 7 2 0 0 0 h4) fun x109 h110 => if x109 = (-9999001 : Int32) then (zcl (FL_call T p0 8 0 x1 0 0 h110) fun x113 h114 => if x113 = (-9999001 : Int32) then (zcl (FL_call T p0 8 2 0 0 0 h114) fun x117 h118 => if x117 = (-9999001 : Int32) then (zcn 5 (FL_tryWrite T p0 x1 0 0 0 0 h118) fun x121 h122 => if x121 = (-9999001 : Int32) then (zcn 5 (FL_tryWrite T p0 0 0 27 0 0 h122) fun x124 h125 => if x124 = (-9999002 : Int32) then (zcn 5 (FL_tryWrite T p0 0 0 0 4 0 h125) fun x127 h128 => if x127 = (-9999002 : Int32) then (zcn 5 (FL_tryWrite T p0 0 0 0 0 9 h128) fun x130 h131 => if x130 = (-9999002 : Int32) then (J9 1 x3 h131) else (J107 x3 h131)) else (J107 x3 h128)) else (J107 x3 h125)) else (J107 x3 h122)) else (J107 x3 h118)) else (J107 x3 h114)) else (J107 x3 h110)))) (fun J5 => zJ (fun (x132 : Int32) (x133 : Int32) (h134 : zH) => J5 x132 x133 0 h134) (fun J135 => zcl (FL_about T p0 0 h) fun x137 h138 => zcl (FL_about T p0 1 h138) fun x141 h142 => (zremI p1 9).bind fun x144 => zcl (FL_call T p0 0 (256 + x144) 0 0 0 h142) fun x146 h147 => if x146 = (-9999002 : Int32) then (zcl (FL_about T p0 10 h147) fun x150 h151 => if x150 = (-9999002 : Int32) then (zcl (FL_call T p0 3 2 0 0 0 h151) fun x154 h155 => if x154 = (-9999001 : Int32) then (zcl (FL_call T p0 3 0 5 0 0 h155) fun x158 h159 => if x158 = (-9999002 : Int32) then (zcl (FL_call T p0 4 x137 0 0 0 h159) fun x162 h163 => if x162 = (-9999001 : Int32) then (zcl (FL_call T p0 4 0 x141 0 0 h163) fun x166 h167 => if x166 = (-9999001 : Int32) then (zcl (FL_call T p0 5 0 0 2 0 h167) fun x170 h171 => if x170 = (-9999001 : Int32) then (J5 x137 x141 1 h171) else (J135 x137 x141 h171)) else (J135 x137 x141 h167)) else (J135 x137 x141 h163)) else (J135 x137 x141 h159)) else (J135 x137 x141 h155)) else (J135 x137 x141 h151)) else (J135 x137 x141 h147)))
set_option maxHeartbeats 4000000 in
set_option maxRecDepth 100000 in
theorem BL_fails {X : zX} (CL : zCL X cL_fails 5 RL "fails" (some .boolean) 11 241) {hi : Nat} {h : zH} {p0 : Nat} {p1 : Int32} {rv : Int32} {rh : zH} {n9 : Nat} (hf : FL_fails (xT X) p0 p1 h = some (rv, rh, n9)) : zW X 5 (zZ X false (some (.int rv), hi, rh)) n9 (6 * n9) false hi h 0 [(0, .ref p0), (1, .int p1)] [] := by
  have C := CL.1
  unfold FL_fails at hf
  refine z_join (P := fun J => ∀ (x1 : Int32) (x2 : Int32) (x3 : Int32) (h4 : zH) (n9 : Nat), J x1 x2 x3 h4 = some (rv, rh, n9) → zW X 5 (zZ X false (some (.int rv), hi, rh)) n9 (6 * n9) false hi h4 119 [(0, .ref p0), (1, .int p1), (2, .int x1), (3, .int x2)] [.int x3]) hf ?_ ?_
  · intro x1 x2 x3 h4 n9 hf
    refine z_join (P := fun J => ∀ (x6 : Int32) (x7 : Int32) (h8 : zH) (n9 : Nat), J x6 x7 h8 = some (rv, rh, n9) → zW X 5 (zZ X false (some (.int rv), hi, rh)) n9 (6 * n9) false hi h8 231 [(0, .ref p0), (1, .int p1), (3, .int x2)] [.int x6, .int x7]) hf ?_ ?_
    · intro x6 x7 h8 n9 hf
      refine z_join (P := fun J => ∀ (x10 : Int32) (x11 : Int32) (h12 : zH) (n9 : Nat), J x10 x11 h12 = some (rv, rh, n9) → zW X 5 (zZ X false (some (.int rv), hi, rh)) n9 (6 * n9) false hi h12 347 [(0, .ref p0), (1, .int p1)] [.int x10, .int x11]) hf ?_ ?_
      · intro x10 x11 h12 n9 hf
        refine z_join (P := fun J => ∀ (x14 : Int32) (x15 : Int32) (h16 : zH) (n9 : Nat), J x14 x15 h16 = some (rv, rh, n9) → zW X 5 (zZ X false (some (.int rv), hi, rh)) n9 (6 * n9) false hi h16 487 [(0, .ref p0), (1, .int p1)] [.int x14, .int x15]) hf ?_ ?_
        · intro x14 x15 h16 n9 hf
          refine z_join (P := fun J => ∀ (x18 : Int32) (h19 : zH) (n9 : Nat), J x18 h19 = some (rv, rh, n9) → zW X 5 (zZ X false (some (.int rv), hi, rh)) n9 (6 * n9) false hi h19 562 [] [.int x18]) hf ?_ ?_
          · intro x18 h19 n9 hf
            refine z_ite hf (fun c hf => ?_) (fun c hf => nomatch hf)
            exact z_zreturn C dL_fails_562 c (by cases hf; rfl)
          · intro J20 kJ20 hf
            refine z_join (P := fun J => ∀ (h21 : zH) (n9 : Nat), J h21 = some (rv, rh, n9) → zW X 5 (zZ X false (some (.int rv), hi, rh)) n9 (6 * n9) false hi h21 561 [] []) hf ?_ ?_
            · intro h21 n9 hf
              refine z_iconst C (v := 0) dL_fails_561 (by decide) ?_
              exact kJ20 _ _ _ hf
            · intro J22 kJ22 hf
              refine z_iand C dL_fails_487 ?_
              refine z_istore C dL_fails_488 (by decide) (lv' := [(4, .int (x15 &&& x14)), (0, .ref p0), (1, .int p1)]) rfl ?_
              refine z_iload C dL_fails_490 0 rfl ?_
              refine z_if_eq (tgt := 561) C dL_fails_492 (by decide) hf (fun hf => ?_) (fun hf => ?_)
              · refine z_sub [] rfl ?_
                exact kJ22 _ _ hf
              · refine z_aload_n C dL_fails_495 1 rfl rfl ?_
                refine z_iconst C (v := 4) dL_fails_496 (by decide) ?_
                refine z_lconst C (v := 0) dL_fails_497 (by decide) ?_
                obtain ⟨x24, h25, n9, g23, hf, e9⟩ := zcnE hf
                refine z_callLW (kc' := n9) (ks' := 6 * n9) CL (ML_tryScript (xl X) CL.2.2.2 (xD X) (xT X) (xlo X) hi g23) cw_L_198 ys_L_tryScript dL_fails_498 rfl (by decide) ⟨by show 2 + _ = _; omega, by show 12 + _ = _; omega⟩ (Nat.le_of_ble_eq_true rfl) (st := []) rfl ?_
                refine z_ldc C (v := (-9999002 : Int32)) mw_467 dL_fails_501 ?_
                refine z_icmp_ne (tgt := 561) C dL_fails_503 (by decide) hf (fun hf => ?_) (fun hf => ?_)
                · refine z_sub [] rfl ?_
                  exact kJ22 _ _ hf
                · refine z_aload_n C dL_fails_506 1 rfl rfl ?_
                  refine z_iconst C (v := 1) dL_fails_507 (by decide) ?_
                  refine z_ldc2 C (v := 100000) mw_962 dL_fails_508 ?_
                  obtain ⟨x27, h28, n9, g26, hf, e9⟩ := zcnE hf
                  refine z_callLW (kc' := n9) (ks' := 6 * n9) CL (ML_tryScript (xl X) CL.2.2.2 (xD X) (xT X) (xlo X) hi g26) cw_L_198 ys_L_tryScript dL_fails_511 rfl (by decide) ⟨by show 2 + _ = _; omega, by show 12 + _ = _; omega⟩ (Nat.le_of_ble_eq_true rfl) (st := []) rfl ?_
                  refine z_ldc C (v := (-9999002 : Int32)) mw_467 dL_fails_514 ?_
                  refine z_icmp_ne (tgt := 561) C dL_fails_516 (by decide) hf (fun hf => ?_) (fun hf => ?_)
                  · refine z_sub [] rfl ?_
                    exact kJ22 _ _ hf
                  · refine z_aload_n C dL_fails_519 1 rfl rfl ?_
                    refine z_iconst C (v := 2) dL_fails_520 (by decide) ?_
                    refine z_ldc2 C (v := -1) mw_981 dL_fails_521 ?_
                    obtain ⟨x30, h31, n9, g29, hf, e9⟩ := zcnE hf
                    refine z_callLW (kc' := n9) (ks' := 6 * n9) CL (ML_tryScript (xl X) CL.2.2.2 (xD X) (xT X) (xlo X) hi g29) cw_L_198 ys_L_tryScript dL_fails_524 rfl (by decide) ⟨by show 2 + _ = _; omega, by show 12 + _ = _; omega⟩ (Nat.le_of_ble_eq_true rfl) (st := []) rfl ?_
                    refine z_ldc C (v := (-9999002 : Int32)) mw_467 dL_fails_527 ?_
                    refine z_icmp_ne (tgt := 561) C dL_fails_529 (by decide) hf (fun hf => ?_) (fun hf => ?_)
                    · refine z_sub [] rfl ?_
                      exact kJ22 _ _ hf
                    · refine z_aload_n C dL_fails_532 1 rfl rfl ?_
                      refine z_iload_n C dL_fails_533 2 rfl rfl ?_
                      refine z_i2l C dL_fails_534 ?_
                      refine z_iconst C (v := 0) dL_fails_535 (by decide) ?_
                      obtain ⟨x33, h34, n9, g32, hf, e9⟩ := zcnE hf
                      refine z_callLW (kc' := n9) (ks' := 6 * n9) CL (ML_trySimulate (xl X) CL.2.2.2 (xD X) (xT X) (xlo X) hi g32) cw_L_231 ys_L_trySimulate dL_fails_536 rfl (by decide) ⟨by show 1 + _ = _; omega, by show 6 + _ = _; omega⟩ (Nat.le_of_ble_eq_true rfl) (st := []) rfl ?_
                      refine z_ldc C (v := (-9999002 : Int32)) mw_467 dL_fails_539 ?_
                      refine z_icmp_ne (tgt := 561) C dL_fails_541 (by decide) hf (fun hf => ?_) (fun hf => ?_)
                      · refine z_sub [] rfl ?_
                        exact kJ22 _ _ hf
                      · refine z_aload_n C dL_fails_544 1 rfl rfl ?_
                        refine z_iload_n C dL_fails_545 2 rfl rfl ?_
                        refine z_i2l C dL_fails_546 ?_
                        refine z_bipush C (v := 100) dL_fails_547 (by decide) ?_
                        obtain ⟨x36, h37, n9, g35, hf, e9⟩ := zcnE hf
                        refine z_callLW (kc' := n9) (ks' := 6 * n9) CL (ML_trySimulate (xl X) CL.2.2.2 (xD X) (xT X) (xlo X) hi g35) cw_L_231 ys_L_trySimulate dL_fails_549 rfl (by decide) ⟨by show 1 + _ = _; omega, by show 6 + _ = _; omega⟩ (Nat.le_of_ble_eq_true rfl) (st := []) rfl ?_
                        refine z_ldc C (v := (-9999002 : Int32)) mw_467 dL_fails_552 ?_
                        refine z_icmp_ne (tgt := 561) C dL_fails_554 (by decide) hf (fun hf => ?_) (fun hf => ?_)
                        · refine z_sub [] rfl ?_
                          exact kJ22 _ _ hf
                        · refine z_iconst C (v := 1) dL_fails_557 (by decide) ?_
                          refine z_goto (tgt := 562) C dL_fails_558 (by decide) ?_
                          refine z_sub [] rfl ?_
                          exact kJ20 _ _ _ hf
        · intro J17 kJ17 hf
          refine z_join (P := fun J => ∀ (x38 : Int32) (h39 : zH) (n9 : Nat), J x38 h39 = some (rv, rh, n9) → zW X 5 (zZ X false (some (.int rv), hi, rh)) n9 (6 * n9) false hi h39 486 [(0, .ref p0), (1, .int p1)] [.int x38]) hf ?_ ?_
          · intro x38 h39 n9 hf
            refine z_iconst C (v := 0) dL_fails_486 (by decide) ?_
            exact kJ17 _ _ _ _ hf
          · intro J40 kJ40 hf
            refine z_iand C dL_fails_347 ?_
            refine z_istore C dL_fails_348 (by decide) (lv' := [(4, .int (x11 &&& x10)), (0, .ref p0), (1, .int p1)]) rfl ?_
            refine z_iload C dL_fails_350 0 rfl ?_
            refine z_aload_n C dL_fails_352 1 rfl rfl ?_
            refine z_iconst C (v := 2) dL_fails_353 (by decide) ?_
            refine z_iconst C (v := 1) dL_fails_354 (by decide) ?_
            refine z_lconst C (v := 0) dL_fails_355 (by decide) ?_
            obtain ⟨x42, h43, n9, g41, hf, e9⟩ := zcnE hf
            refine z_callLW (kc' := n9) (ks' := 6 * n9) CL (ML_tryFind (xl X) CL.2.2.2 (xD X) (xT X) (xlo X) hi g41) cw_L_182 ys_L_tryFind dL_fails_356 rfl (by decide) ⟨by show 3 + _ = _; omega, by show 18 + _ = _; omega⟩ (Nat.le_of_ble_eq_true rfl) (st := [.int (x11 &&& x10)]) rfl ?_
            refine z_ldc C (v := (-9999001 : Int32)) mw_644 dL_fails_359 ?_
            refine z_icmp_ne (tgt := 486) C dL_fails_361 (by decide) hf (fun hf => ?_) (fun hf => ?_)
            · refine z_sub [1, 2] rfl ?_
              exact kJ40 _ _ _ hf
            · refine z_aload_n C dL_fails_364 1 rfl rfl ?_
              refine z_iconst C (v := 0) dL_fails_365 (by decide) ?_
              refine z_bipush C (v := 9) dL_fails_366 (by decide) ?_
              refine z_lconst C (v := 0) dL_fails_368 (by decide) ?_
              obtain ⟨x45, h46, n9, g44, hf, e9⟩ := zcnE hf
              refine z_callLW (kc' := n9) (ks' := 6 * n9) CL (ML_tryFind (xl X) CL.2.2.2 (xD X) (xT X) (xlo X) hi g44) cw_L_182 ys_L_tryFind dL_fails_369 rfl (by decide) ⟨by show 3 + _ = _; omega, by show 18 + _ = _; omega⟩ (Nat.le_of_ble_eq_true rfl) (st := [.int (x11 &&& x10)]) rfl ?_
              refine z_ldc C (v := (-9999002 : Int32)) mw_467 dL_fails_372 ?_
              refine z_icmp_ne (tgt := 486) C dL_fails_374 (by decide) hf (fun hf => ?_) (fun hf => ?_)
              · refine z_sub [1, 2] rfl ?_
                exact kJ40 _ _ _ hf
              · refine z_aload_n C dL_fails_377 1 rfl rfl ?_
                refine z_iconst C (v := 0) dL_fails_378 (by decide) ?_
                refine z_iconst C (v := 2) dL_fails_379 (by decide) ?_
                refine z_ldc2 C (v := 2700) mw_980 dL_fails_380 ?_
                obtain ⟨x48, h49, n9, g47, hf, e9⟩ := zcnE hf
                refine z_callLW (kc' := n9) (ks' := 6 * n9) CL (ML_tryFind (xl X) CL.2.2.2 (xD X) (xT X) (xlo X) hi g47) cw_L_182 ys_L_tryFind dL_fails_383 rfl (by decide) ⟨by show 3 + _ = _; omega, by show 18 + _ = _; omega⟩ (Nat.le_of_ble_eq_true rfl) (st := [.int (x11 &&& x10)]) rfl ?_
                refine z_ldc C (v := (-9999002 : Int32)) mw_467 dL_fails_386 ?_
                refine z_icmp_ne (tgt := 486) C dL_fails_388 (by decide) hf (fun hf => ?_) (fun hf => ?_)
                · refine z_sub [1, 2] rfl ?_
                  exact kJ40 _ _ _ hf
                · refine z_aload_n C dL_fails_391 1 rfl rfl ?_
                  refine z_bipush C (v := 15) dL_fails_392 (by decide) ?_
                  refine z_iconst C (v := 0) dL_fails_394 (by decide) ?_
                  refine z_bipush C (v := 27) dL_fails_395 (by decide) ?_
                  refine z_iconst C (v := 0) dL_fails_397 (by decide) ?_
                  refine z_iconst C (v := 0) dL_fails_398 (by decide) ?_
                  obtain ⟨x51, h52, m53, n9, g50, hf, e9⟩ := zclE hf
                  refine z_callL (kc' := n9) (ks' := 6 * n9) CL (ML_call (xl X) CL.2.2.2 (xD X) (xT X) (xlo X) hi g50) cw_L_174 ys_L_call dL_fails_399 rfl ⟨Nat.le_of_ble_eq_true rfl, Nat.le_of_ble_eq_true rfl⟩ ⟨by show m53 + _ = _; omega, by show 6 * m53 + _ = _; omega⟩ (Nat.le_of_ble_eq_true rfl) (st := [.int (x11 &&& x10)]) rfl ?_
                  refine z_ldc C (v := (-9999002 : Int32)) mw_467 dL_fails_402 ?_
                  refine z_icmp_ne (tgt := 486) C dL_fails_404 (by decide) hf (fun hf => ?_) (fun hf => ?_)
                  · refine z_sub [1, 2] rfl ?_
                    exact kJ40 _ _ _ hf
                  · refine z_aload_n C dL_fails_407 1 rfl rfl ?_
                    refine z_bipush C (v := 16) dL_fails_408 (by decide) ?_
                    refine z_iconst C (v := 2) dL_fails_410 (by decide) ?_
                    refine z_iconst C (v := 0) dL_fails_411 (by decide) ?_
                    refine z_iconst C (v := 0) dL_fails_412 (by decide) ?_
                    refine z_iconst C (v := 0) dL_fails_413 (by decide) ?_
                    obtain ⟨x55, h56, m57, n9, g54, hf, e9⟩ := zclE hf
                    refine z_callL (kc' := n9) (ks' := 6 * n9) CL (ML_call (xl X) CL.2.2.2 (xD X) (xT X) (xlo X) hi g54) cw_L_174 ys_L_call dL_fails_414 rfl ⟨Nat.le_of_ble_eq_true rfl, Nat.le_of_ble_eq_true rfl⟩ ⟨by show m57 + _ = _; omega, by show 6 * m57 + _ = _; omega⟩ (Nat.le_of_ble_eq_true rfl) (st := [.int (x11 &&& x10)]) rfl ?_
                    refine z_ldc C (v := (-9999001 : Int32)) mw_644 dL_fails_417 ?_
                    refine z_icmp_ne (tgt := 486) C dL_fails_419 (by decide) hf (fun hf => ?_) (fun hf => ?_)
                    · refine z_sub [1, 2] rfl ?_
                      exact kJ40 _ _ _ hf
                    · refine z_aload_n C dL_fails_422 1 rfl rfl ?_
                      refine z_bipush C (v := 17) dL_fails_423 (by decide) ?_
                      refine z_iconst C (v := (-1 : Int32)) dL_fails_425 (by decide) ?_
                      refine z_iconst C (v := 0) dL_fails_426 (by decide) ?_
                      refine z_iconst C (v := 0) dL_fails_427 (by decide) ?_
                      refine z_iconst C (v := 0) dL_fails_428 (by decide) ?_
                      obtain ⟨x59, h60, m61, n9, g58, hf, e9⟩ := zclE hf
                      refine z_callL (kc' := n9) (ks' := 6 * n9) CL (ML_call (xl X) CL.2.2.2 (xD X) (xT X) (xlo X) hi g58) cw_L_174 ys_L_call dL_fails_429 rfl ⟨Nat.le_of_ble_eq_true rfl, Nat.le_of_ble_eq_true rfl⟩ ⟨by show m61 + _ = _; omega, by show 6 * m61 + _ = _; omega⟩ (Nat.le_of_ble_eq_true rfl) (st := [.int (x11 &&& x10)]) rfl ?_
                      refine z_ldc C (v := (-9999001 : Int32)) mw_644 dL_fails_432 ?_
                      refine z_icmp_ne (tgt := 486) C dL_fails_434 (by decide) hf (fun hf => ?_) (fun hf => ?_)
                      · refine z_sub [1, 2] rfl ?_
                        exact kJ40 _ _ _ hf
                      · refine z_aload_n C dL_fails_437 1 rfl rfl ?_
                        refine z_bipush C (v := 18) dL_fails_438 (by decide) ?_
                        refine z_iconst C (v := 0) dL_fails_440 (by decide) ?_
                        refine z_iconst C (v := 4) dL_fails_441 (by decide) ?_
                        refine z_iconst C (v := 0) dL_fails_442 (by decide) ?_
                        refine z_iconst C (v := 0) dL_fails_443 (by decide) ?_
                        obtain ⟨x63, h64, m65, n9, g62, hf, e9⟩ := zclE hf
                        refine z_callL (kc' := n9) (ks' := 6 * n9) CL (ML_call (xl X) CL.2.2.2 (xD X) (xT X) (xlo X) hi g62) cw_L_174 ys_L_call dL_fails_444 rfl ⟨Nat.le_of_ble_eq_true rfl, Nat.le_of_ble_eq_true rfl⟩ ⟨by show m65 + _ = _; omega, by show 6 * m65 + _ = _; omega⟩ (Nat.le_of_ble_eq_true rfl) (st := [.int (x11 &&& x10)]) rfl ?_
                        refine z_ldc C (v := (-9999002 : Int32)) mw_467 dL_fails_447 ?_
                        refine z_icmp_ne (tgt := 486) C dL_fails_449 (by decide) hf (fun hf => ?_) (fun hf => ?_)
                        · refine z_sub [1, 2] rfl ?_
                          exact kJ40 _ _ _ hf
                        · refine z_aload_n C dL_fails_452 1 rfl rfl ?_
                          refine z_bipush C (v := 19) dL_fails_453 (by decide) ?_
                          refine z_iconst C (v := 2) dL_fails_455 (by decide) ?_
                          refine z_iconst C (v := 0) dL_fails_456 (by decide) ?_
                          refine z_iconst C (v := 0) dL_fails_457 (by decide) ?_
                          refine z_iconst C (v := 0) dL_fails_458 (by decide) ?_
                          obtain ⟨x67, h68, m69, n9, g66, hf, e9⟩ := zclE hf
                          refine z_callL (kc' := n9) (ks' := 6 * n9) CL (ML_call (xl X) CL.2.2.2 (xD X) (xT X) (xlo X) hi g66) cw_L_174 ys_L_call dL_fails_459 rfl ⟨Nat.le_of_ble_eq_true rfl, Nat.le_of_ble_eq_true rfl⟩ ⟨by show m69 + _ = _; omega, by show 6 * m69 + _ = _; omega⟩ (Nat.le_of_ble_eq_true rfl) (st := [.int (x11 &&& x10)]) rfl ?_
                          refine z_ldc C (v := (-9999001 : Int32)) mw_644 dL_fails_462 ?_
                          refine z_icmp_ne (tgt := 486) C dL_fails_464 (by decide) hf (fun hf => ?_) (fun hf => ?_)
                          · refine z_sub [1, 2] rfl ?_
                            exact kJ40 _ _ _ hf
                          · refine z_aload_n C dL_fails_467 1 rfl rfl ?_
                            refine z_bipush C (v := 20) dL_fails_468 (by decide) ?_
                            refine z_iconst C (v := (-1 : Int32)) dL_fails_470 (by decide) ?_
                            refine z_iconst C (v := 0) dL_fails_471 (by decide) ?_
                            refine z_iconst C (v := 0) dL_fails_472 (by decide) ?_
                            refine z_iconst C (v := 0) dL_fails_473 (by decide) ?_
                            obtain ⟨x71, h72, m73, n9, g70, hf, e9⟩ := zclE hf
                            refine z_callL (kc' := n9) (ks' := 6 * n9) CL (ML_call (xl X) CL.2.2.2 (xD X) (xT X) (xlo X) hi g70) cw_L_174 ys_L_call dL_fails_474 rfl ⟨Nat.le_of_ble_eq_true rfl, Nat.le_of_ble_eq_true rfl⟩ ⟨by show m73 + _ = _; omega, by show 6 * m73 + _ = _; omega⟩ (Nat.le_of_ble_eq_true rfl) (st := [.int (x11 &&& x10)]) rfl ?_
                            refine z_ldc C (v := (-9999001 : Int32)) mw_644 dL_fails_477 ?_
                            refine z_icmp_ne (tgt := 486) C dL_fails_479 (by decide) hf (fun hf => ?_) (fun hf => ?_)
                            · refine z_sub [1, 2] rfl ?_
                              exact kJ40 _ _ _ hf
                            · refine z_iconst C (v := 1) dL_fails_482 (by decide) ?_
                              refine z_goto (tgt := 487) C dL_fails_483 (by decide) ?_
                              refine z_sub [1, 2] rfl ?_
                              exact kJ17 _ _ _ _ hf
      · intro J13 kJ13 hf
        refine z_join (P := fun J => ∀ (x74 : Int32) (h75 : zH) (n9 : Nat), J x74 h75 = some (rv, rh, n9) → zW X 5 (zZ X false (some (.int rv), hi, rh)) n9 (6 * n9) false hi h75 346 [(0, .ref p0), (1, .int p1)] [.int x74]) hf ?_ ?_
        · intro x74 h75 n9 hf
          refine z_iconst C (v := 0) dL_fails_346 (by decide) ?_
          exact kJ13 _ _ _ _ hf
        · intro J76 kJ76 hf
          refine z_iand C dL_fails_231 ?_
          refine z_istore C dL_fails_232 (by decide) (lv' := [(4, .int (x7 &&& x6)), (0, .ref p0), (1, .int p1), (3, .int x2)]) rfl ?_
          refine z_iload C dL_fails_234 0 rfl ?_
          refine z_aload_n C dL_fails_236 1 rfl rfl ?_
          refine z_bipush C (v := 9) dL_fails_237 (by decide) ?_
          refine z_iconst C (v := 0) dL_fails_239 (by decide) ?_
          refine z_iload_n C dL_fails_240 3 rfl rfl ?_
          refine z_iconst C (v := 0) dL_fails_241 (by decide) ?_
          refine z_iconst C (v := 0) dL_fails_242 (by decide) ?_
          obtain ⟨x78, h79, m80, n9, g77, hf, e9⟩ := zclE hf
          refine z_callL (kc' := n9) (ks' := 6 * n9) CL (ML_call (xl X) CL.2.2.2 (xD X) (xT X) (xlo X) hi g77) cw_L_174 ys_L_call dL_fails_243 rfl ⟨Nat.le_of_ble_eq_true rfl, Nat.le_of_ble_eq_true rfl⟩ ⟨by show m80 + _ = _; omega, by show 6 * m80 + _ = _; omega⟩ (Nat.le_of_ble_eq_true rfl) (st := [.int (x7 &&& x6)]) rfl ?_
          refine z_ldc C (v := (-9999001 : Int32)) mw_644 dL_fails_246 ?_
          refine z_icmp_ne (tgt := 346) C dL_fails_248 (by decide) hf (fun hf => ?_) (fun hf => ?_)
          · refine z_sub [1, 2] rfl ?_
            exact kJ76 _ _ _ hf
          · refine z_aload_n C dL_fails_251 1 rfl rfl ?_
            refine z_bipush C (v := 10) dL_fails_252 (by decide) ?_
            refine z_iconst C (v := 0) dL_fails_254 (by decide) ?_
            refine z_iconst C (v := 0) dL_fails_255 (by decide) ?_
            refine z_iconst C (v := 2) dL_fails_256 (by decide) ?_
            refine z_iconst C (v := 0) dL_fails_257 (by decide) ?_
            obtain ⟨x82, h83, m84, n9, g81, hf, e9⟩ := zclE hf
            refine z_callL (kc' := n9) (ks' := 6 * n9) CL (ML_call (xl X) CL.2.2.2 (xD X) (xT X) (xlo X) hi g81) cw_L_174 ys_L_call dL_fails_258 rfl ⟨Nat.le_of_ble_eq_true rfl, Nat.le_of_ble_eq_true rfl⟩ ⟨by show m84 + _ = _; omega, by show 6 * m84 + _ = _; omega⟩ (Nat.le_of_ble_eq_true rfl) (st := [.int (x7 &&& x6)]) rfl ?_
            refine z_ldc C (v := (-9999001 : Int32)) mw_644 dL_fails_261 ?_
            refine z_icmp_ne (tgt := 346) C dL_fails_263 (by decide) hf (fun hf => ?_) (fun hf => ?_)
            · refine z_sub [1, 2] rfl ?_
              exact kJ76 _ _ _ hf
            · refine z_aload_n C dL_fails_266 1 rfl rfl ?_
              refine z_bipush C (v := 11) dL_fails_267 (by decide) ?_
              refine z_iconst C (v := 2) dL_fails_269 (by decide) ?_
              refine z_iconst C (v := 0) dL_fails_270 (by decide) ?_
              refine z_iconst C (v := 0) dL_fails_271 (by decide) ?_
              refine z_iconst C (v := 0) dL_fails_272 (by decide) ?_
              obtain ⟨x86, h87, m88, n9, g85, hf, e9⟩ := zclE hf
              refine z_callL (kc' := n9) (ks' := 6 * n9) CL (ML_call (xl X) CL.2.2.2 (xD X) (xT X) (xlo X) hi g85) cw_L_174 ys_L_call dL_fails_273 rfl ⟨Nat.le_of_ble_eq_true rfl, Nat.le_of_ble_eq_true rfl⟩ ⟨by show m88 + _ = _; omega, by show 6 * m88 + _ = _; omega⟩ (Nat.le_of_ble_eq_true rfl) (st := [.int (x7 &&& x6)]) rfl ?_
              refine z_ldc C (v := (-9999001 : Int32)) mw_644 dL_fails_276 ?_
              refine z_icmp_ne (tgt := 346) C dL_fails_278 (by decide) hf (fun hf => ?_) (fun hf => ?_)
              · refine z_sub [1, 2] rfl ?_
                exact kJ76 _ _ _ hf
              · refine z_aload_n C dL_fails_281 1 rfl rfl ?_
                refine z_bipush C (v := 11) dL_fails_282 (by decide) ?_
                refine z_iconst C (v := 0) dL_fails_284 (by decide) ?_
                refine z_iconst C (v := 4) dL_fails_285 (by decide) ?_
                refine z_iconst C (v := 0) dL_fails_286 (by decide) ?_
                refine z_iconst C (v := 0) dL_fails_287 (by decide) ?_
                obtain ⟨x90, h91, m92, n9, g89, hf, e9⟩ := zclE hf
                refine z_callL (kc' := n9) (ks' := 6 * n9) CL (ML_call (xl X) CL.2.2.2 (xD X) (xT X) (xlo X) hi g89) cw_L_174 ys_L_call dL_fails_288 rfl ⟨Nat.le_of_ble_eq_true rfl, Nat.le_of_ble_eq_true rfl⟩ ⟨by show m92 + _ = _; omega, by show 6 * m92 + _ = _; omega⟩ (Nat.le_of_ble_eq_true rfl) (st := [.int (x7 &&& x6)]) rfl ?_
                refine z_ldc C (v := (-9999002 : Int32)) mw_467 dL_fails_291 ?_
                refine z_icmp_ne (tgt := 346) C dL_fails_293 (by decide) hf (fun hf => ?_) (fun hf => ?_)
                · refine z_sub [1, 2] rfl ?_
                  exact kJ76 _ _ _ hf
                · refine z_aload_n C dL_fails_296 1 rfl rfl ?_
                  refine z_bipush C (v := 11) dL_fails_297 (by decide) ?_
                  refine z_iconst C (v := 1) dL_fails_299 (by decide) ?_
                  refine z_iconst C (v := 0) dL_fails_300 (by decide) ?_
                  refine z_iconst C (v := 0) dL_fails_301 (by decide) ?_
                  refine z_iconst C (v := 2) dL_fails_302 (by decide) ?_
                  obtain ⟨x94, h95, m96, n9, g93, hf, e9⟩ := zclE hf
                  refine z_callL (kc' := n9) (ks' := 6 * n9) CL (ML_call (xl X) CL.2.2.2 (xD X) (xT X) (xlo X) hi g93) cw_L_174 ys_L_call dL_fails_303 rfl ⟨Nat.le_of_ble_eq_true rfl, Nat.le_of_ble_eq_true rfl⟩ ⟨by show m96 + _ = _; omega, by show 6 * m96 + _ = _; omega⟩ (Nat.le_of_ble_eq_true rfl) (st := [.int (x7 &&& x6)]) rfl ?_
                  refine z_ldc C (v := (-9999002 : Int32)) mw_467 dL_fails_306 ?_
                  refine z_icmp_ne (tgt := 346) C dL_fails_308 (by decide) hf (fun hf => ?_) (fun hf => ?_)
                  · refine z_sub [1, 2] rfl ?_
                    exact kJ76 _ _ _ hf
                  · refine z_aload_n C dL_fails_311 1 rfl rfl ?_
                    refine z_bipush C (v := 12) dL_fails_312 (by decide) ?_
                    refine z_bipush C (v := 10) dL_fails_314 (by decide) ?_
                    refine z_iconst C (v := 0) dL_fails_316 (by decide) ?_
                    refine z_iconst C (v := 0) dL_fails_317 (by decide) ?_
                    refine z_iconst C (v := 0) dL_fails_318 (by decide) ?_
                    obtain ⟨x98, h99, m100, n9, g97, hf, e9⟩ := zclE hf
                    refine z_callL (kc' := n9) (ks' := 6 * n9) CL (ML_call (xl X) CL.2.2.2 (xD X) (xT X) (xlo X) hi g97) cw_L_174 ys_L_call dL_fails_319 rfl ⟨Nat.le_of_ble_eq_true rfl, Nat.le_of_ble_eq_true rfl⟩ ⟨by show m100 + _ = _; omega, by show 6 * m100 + _ = _; omega⟩ (Nat.le_of_ble_eq_true rfl) (st := [.int (x7 &&& x6)]) rfl ?_
                    refine z_ldc C (v := (-9999002 : Int32)) mw_467 dL_fails_322 ?_
                    refine z_icmp_ne (tgt := 346) C dL_fails_324 (by decide) hf (fun hf => ?_) (fun hf => ?_)
                    · refine z_sub [1, 2] rfl ?_
                      exact kJ76 _ _ _ hf
                    · refine z_aload_n C dL_fails_327 1 rfl rfl ?_
                      refine z_bipush C (v := 13) dL_fails_328 (by decide) ?_
                      refine z_iconst C (v := 0) dL_fails_330 (by decide) ?_
                      refine z_iconst C (v := 0) dL_fails_331 (by decide) ?_
                      refine z_iconst C (v := 0) dL_fails_332 (by decide) ?_
                      refine z_iconst C (v := 0) dL_fails_333 (by decide) ?_
                      obtain ⟨x102, h103, m104, n9, g101, hf, e9⟩ := zclE hf
                      refine z_callL (kc' := n9) (ks' := 6 * n9) CL (ML_call (xl X) CL.2.2.2 (xD X) (xT X) (xlo X) hi g101) cw_L_174 ys_L_call dL_fails_334 rfl ⟨Nat.le_of_ble_eq_true rfl, Nat.le_of_ble_eq_true rfl⟩ ⟨by show m104 + _ = _; omega, by show 6 * m104 + _ = _; omega⟩ (Nat.le_of_ble_eq_true rfl) (st := [.int (x7 &&& x6)]) rfl ?_
                      refine z_ldc C (v := (-9999002 : Int32)) mw_467 dL_fails_337 ?_
                      refine z_icmp_ne (tgt := 346) C dL_fails_339 (by decide) hf (fun hf => ?_) (fun hf => ?_)
                      · refine z_sub [1, 2] rfl ?_
                        exact kJ76 _ _ _ hf
                      · refine z_iconst C (v := 1) dL_fails_342 (by decide) ?_
                        refine z_goto (tgt := 347) C dL_fails_343 (by decide) ?_
                        refine z_sub [1, 2] rfl ?_
                        exact kJ13 _ _ _ _ hf
    · intro J9 kJ9 hf
      refine z_join (P := fun J => ∀ (x105 : Int32) (h106 : zH) (n9 : Nat), J x105 h106 = some (rv, rh, n9) → zW X 5 (zZ X false (some (.int rv), hi, rh)) n9 (6 * n9) false hi h106 230 [(0, .ref p0), (1, .int p1), (3, .int x2)] [.int x105]) hf ?_ ?_
      · intro x105 h106 n9 hf
        refine z_iconst C (v := 0) dL_fails_230 (by decide) ?_
        exact kJ9 _ _ _ _ hf
      · intro J107 kJ107 hf
        refine z_istore C dL_fails_119 (by decide) (lv' := [(4, .int x3), (0, .ref p0), (1, .int p1), (2, .int x1), (3, .int x2)]) rfl ?_
        refine z_iload C dL_fails_121 0 rfl ?_
        refine z_aload_n C dL_fails_123 1 rfl rfl ?_
        refine z_bipush C (v := 7) dL_fails_124 (by decide) ?_
        refine z_iconst C (v := 2) dL_fails_126 (by decide) ?_
        refine z_iconst C (v := 0) dL_fails_127 (by decide) ?_
        refine z_iconst C (v := 0) dL_fails_128 (by decide) ?_
        refine z_iconst C (v := 0) dL_fails_129 (by decide) ?_
        obtain ⟨x109, h110, m111, n9, g108, hf, e9⟩ := zclE hf
        refine z_callL (kc' := n9) (ks' := 6 * n9) CL (ML_call (xl X) CL.2.2.2 (xD X) (xT X) (xlo X) hi g108) cw_L_174 ys_L_call dL_fails_130 rfl ⟨Nat.le_of_ble_eq_true rfl, Nat.le_of_ble_eq_true rfl⟩ ⟨by show m111 + _ = _; omega, by show 6 * m111 + _ = _; omega⟩ (Nat.le_of_ble_eq_true rfl) (st := [.int x3]) rfl ?_
        refine z_ldc C (v := (-9999001 : Int32)) mw_644 dL_fails_133 ?_
        refine z_icmp_ne (tgt := 230) C dL_fails_135 (by decide) hf (fun hf => ?_) (fun hf => ?_)
        · refine z_sub [1, 2, 4] rfl ?_
          exact kJ107 _ _ _ hf
        · refine z_aload_n C dL_fails_138 1 rfl rfl ?_
          refine z_bipush C (v := 8) dL_fails_139 (by decide) ?_
          refine z_iconst C (v := 0) dL_fails_141 (by decide) ?_
          refine z_iload_n C dL_fails_142 3 rfl rfl ?_
          refine z_iconst C (v := 0) dL_fails_143 (by decide) ?_
          refine z_iconst C (v := 0) dL_fails_144 (by decide) ?_
          obtain ⟨x113, h114, m115, n9, g112, hf, e9⟩ := zclE hf
          refine z_callL (kc' := n9) (ks' := 6 * n9) CL (ML_call (xl X) CL.2.2.2 (xD X) (xT X) (xlo X) hi g112) cw_L_174 ys_L_call dL_fails_145 rfl ⟨Nat.le_of_ble_eq_true rfl, Nat.le_of_ble_eq_true rfl⟩ ⟨by show m115 + _ = _; omega, by show 6 * m115 + _ = _; omega⟩ (Nat.le_of_ble_eq_true rfl) (st := [.int x3]) rfl ?_
          refine z_ldc C (v := (-9999001 : Int32)) mw_644 dL_fails_148 ?_
          refine z_icmp_ne (tgt := 230) C dL_fails_150 (by decide) hf (fun hf => ?_) (fun hf => ?_)
          · refine z_sub [1, 2, 4] rfl ?_
            exact kJ107 _ _ _ hf
          · refine z_aload_n C dL_fails_153 1 rfl rfl ?_
            refine z_bipush C (v := 8) dL_fails_154 (by decide) ?_
            refine z_iconst C (v := 2) dL_fails_156 (by decide) ?_
            refine z_iconst C (v := 0) dL_fails_157 (by decide) ?_
            refine z_iconst C (v := 0) dL_fails_158 (by decide) ?_
            refine z_iconst C (v := 0) dL_fails_159 (by decide) ?_
            obtain ⟨x117, h118, m119, n9, g116, hf, e9⟩ := zclE hf
            refine z_callL (kc' := n9) (ks' := 6 * n9) CL (ML_call (xl X) CL.2.2.2 (xD X) (xT X) (xlo X) hi g116) cw_L_174 ys_L_call dL_fails_160 rfl ⟨Nat.le_of_ble_eq_true rfl, Nat.le_of_ble_eq_true rfl⟩ ⟨by show m119 + _ = _; omega, by show 6 * m119 + _ = _; omega⟩ (Nat.le_of_ble_eq_true rfl) (st := [.int x3]) rfl ?_
            refine z_ldc C (v := (-9999001 : Int32)) mw_644 dL_fails_163 ?_
            refine z_icmp_ne (tgt := 230) C dL_fails_165 (by decide) hf (fun hf => ?_) (fun hf => ?_)
            · refine z_sub [1, 2, 4] rfl ?_
              exact kJ107 _ _ _ hf
            · refine z_aload_n C dL_fails_168 1 rfl rfl ?_
              refine z_iload_n C dL_fails_169 3 rfl rfl ?_
              refine z_iconst C (v := 0) dL_fails_170 (by decide) ?_
              refine z_iconst C (v := 0) dL_fails_171 (by decide) ?_
              refine z_iconst C (v := 0) dL_fails_172 (by decide) ?_
              refine z_iconst C (v := 0) dL_fails_173 (by decide) ?_
              obtain ⟨x121, h122, n9, g120, hf, e9⟩ := zcnE hf
              refine z_callLW (kc' := n9) (ks' := 6 * n9) CL (ML_tryWrite (xl X) CL.2.2.2 (xD X) (xT X) (xlo X) hi g120) cw_L_224 ys_L_tryWrite dL_fails_174 rfl (by decide) ⟨by show 5 + _ = _; omega, by show 30 + _ = _; omega⟩ (Nat.le_of_ble_eq_true rfl) (st := [.int x3]) rfl ?_
              refine z_ldc C (v := (-9999001 : Int32)) mw_644 dL_fails_177 ?_
              refine z_icmp_ne (tgt := 230) C dL_fails_179 (by decide) hf (fun hf => ?_) (fun hf => ?_)
              · refine z_sub [1, 2, 4] rfl ?_
                exact kJ107 _ _ _ hf
              · refine z_aload_n C dL_fails_182 1 rfl rfl ?_
                refine z_iconst C (v := 0) dL_fails_183 (by decide) ?_
                refine z_iconst C (v := 0) dL_fails_184 (by decide) ?_
                refine z_bipush C (v := 27) dL_fails_185 (by decide) ?_
                refine z_iconst C (v := 0) dL_fails_187 (by decide) ?_
                refine z_iconst C (v := 0) dL_fails_188 (by decide) ?_
                obtain ⟨x124, h125, n9, g123, hf, e9⟩ := zcnE hf
                refine z_callLW (kc' := n9) (ks' := 6 * n9) CL (ML_tryWrite (xl X) CL.2.2.2 (xD X) (xT X) (xlo X) hi g123) cw_L_224 ys_L_tryWrite dL_fails_189 rfl (by decide) ⟨by show 5 + _ = _; omega, by show 30 + _ = _; omega⟩ (Nat.le_of_ble_eq_true rfl) (st := [.int x3]) rfl ?_
                refine z_ldc C (v := (-9999002 : Int32)) mw_467 dL_fails_192 ?_
                refine z_icmp_ne (tgt := 230) C dL_fails_194 (by decide) hf (fun hf => ?_) (fun hf => ?_)
                · refine z_sub [1, 2, 4] rfl ?_
                  exact kJ107 _ _ _ hf
                · refine z_aload_n C dL_fails_197 1 rfl rfl ?_
                  refine z_iconst C (v := 0) dL_fails_198 (by decide) ?_
                  refine z_iconst C (v := 0) dL_fails_199 (by decide) ?_
                  refine z_iconst C (v := 0) dL_fails_200 (by decide) ?_
                  refine z_iconst C (v := 4) dL_fails_201 (by decide) ?_
                  refine z_iconst C (v := 0) dL_fails_202 (by decide) ?_
                  obtain ⟨x127, h128, n9, g126, hf, e9⟩ := zcnE hf
                  refine z_callLW (kc' := n9) (ks' := 6 * n9) CL (ML_tryWrite (xl X) CL.2.2.2 (xD X) (xT X) (xlo X) hi g126) cw_L_224 ys_L_tryWrite dL_fails_203 rfl (by decide) ⟨by show 5 + _ = _; omega, by show 30 + _ = _; omega⟩ (Nat.le_of_ble_eq_true rfl) (st := [.int x3]) rfl ?_
                  refine z_ldc C (v := (-9999002 : Int32)) mw_467 dL_fails_206 ?_
                  refine z_icmp_ne (tgt := 230) C dL_fails_208 (by decide) hf (fun hf => ?_) (fun hf => ?_)
                  · refine z_sub [1, 2, 4] rfl ?_
                    exact kJ107 _ _ _ hf
                  · refine z_aload_n C dL_fails_211 1 rfl rfl ?_
                    refine z_iconst C (v := 0) dL_fails_212 (by decide) ?_
                    refine z_iconst C (v := 0) dL_fails_213 (by decide) ?_
                    refine z_iconst C (v := 0) dL_fails_214 (by decide) ?_
                    refine z_iconst C (v := 0) dL_fails_215 (by decide) ?_
                    refine z_bipush C (v := 9) dL_fails_216 (by decide) ?_
                    obtain ⟨x130, h131, n9, g129, hf, e9⟩ := zcnE hf
                    refine z_callLW (kc' := n9) (ks' := 6 * n9) CL (ML_tryWrite (xl X) CL.2.2.2 (xD X) (xT X) (xlo X) hi g129) cw_L_224 ys_L_tryWrite dL_fails_218 rfl (by decide) ⟨by show 5 + _ = _; omega, by show 30 + _ = _; omega⟩ (Nat.le_of_ble_eq_true rfl) (st := [.int x3]) rfl ?_
                    refine z_ldc C (v := (-9999002 : Int32)) mw_467 dL_fails_221 ?_
                    refine z_icmp_ne (tgt := 230) C dL_fails_223 (by decide) hf (fun hf => ?_) (fun hf => ?_)
                    · refine z_sub [1, 2, 4] rfl ?_
                      exact kJ107 _ _ _ hf
                    · refine z_iconst C (v := 1) dL_fails_226 (by decide) ?_
                      refine z_goto (tgt := 231) C dL_fails_227 (by decide) ?_
                      refine z_sub [1, 2, 4] rfl ?_
                      exact kJ9 _ _ _ _ hf
  · intro J5 kJ5 hf
    refine z_join (P := fun J => ∀ (x132 : Int32) (x133 : Int32) (h134 : zH) (n9 : Nat), J x132 x133 h134 = some (rv, rh, n9) → zW X 5 (zZ X false (some (.int rv), hi, rh)) n9 (6 * n9) false hi h134 118 [(0, .ref p0), (1, .int p1), (2, .int x132), (3, .int x133)] []) hf ?_ ?_
    · intro x132 x133 h134 n9 hf
      refine z_iconst C (v := 0) dL_fails_118 (by decide) ?_
      exact kJ5 _ _ _ _ _ hf
    · intro J135 kJ135 hf
      refine z_aload_n C dL_fails_0 0 rfl rfl ?_
      refine z_iconst C (v := 0) dL_fails_1 (by decide) ?_
      obtain ⟨x137, h138, m139, n9, g136, hf, e9⟩ := zclE hf
      refine z_callL (kc' := n9) (ks' := 6 * n9) CL (ML_about (xl X) CL.2.2.2 (xD X) (xT X) (xlo X) hi g136) cw_L_180 ys_L_about dL_fails_2 rfl ⟨Nat.le_of_ble_eq_true rfl, Nat.le_of_ble_eq_true rfl⟩ ⟨by show m139 + _ = _; omega, by show 6 * m139 + _ = _; omega⟩ (Nat.le_of_ble_eq_true rfl) (st := []) rfl ?_
      refine z_istore_n C dL_fails_5 rfl (by decide) (lv' := [(2, .int x137), (0, .ref p0), (1, .int p1)]) rfl ?_
      refine z_aload_n C dL_fails_6 1 rfl rfl ?_
      refine z_iconst C (v := 1) dL_fails_7 (by decide) ?_
      obtain ⟨x141, h142, m143, n9, g140, hf, e9⟩ := zclE hf
      refine z_callL (kc' := n9) (ks' := 6 * n9) CL (ML_about (xl X) CL.2.2.2 (xD X) (xT X) (xlo X) hi g140) cw_L_180 ys_L_about dL_fails_8 rfl ⟨Nat.le_of_ble_eq_true rfl, Nat.le_of_ble_eq_true rfl⟩ ⟨by show m143 + _ = _; omega, by show 6 * m143 + _ = _; omega⟩ (Nat.le_of_ble_eq_true rfl) (st := []) rfl ?_
      refine z_istore_n C dL_fails_11 rfl (by decide) (lv' := [(3, .int x141), (2, .int x137), (0, .ref p0), (1, .int p1)]) rfl ?_
      refine z_aload_n C dL_fails_12 2 rfl rfl ?_
      refine z_iconst C (v := 0) dL_fails_13 (by decide) ?_
      refine z_sipush C (v := 256) dL_fails_14 (by decide) ?_
      refine z_iload_n C dL_fails_17 3 rfl rfl ?_
      refine z_bipush C (v := 9) dL_fails_18 (by decide) ?_
      refine z_irem C dL_fails_20 hf (fun x144 _ hf => ?_)
      refine z_iadd C dL_fails_21 ?_
      refine z_iconst C (v := 0) dL_fails_22 (by decide) ?_
      refine z_iconst C (v := 0) dL_fails_23 (by decide) ?_
      refine z_iconst C (v := 0) dL_fails_24 (by decide) ?_
      obtain ⟨x146, h147, m148, n9, g145, hf, e9⟩ := zclE hf
      refine z_callL (kc' := n9) (ks' := 6 * n9) CL (ML_call (xl X) CL.2.2.2 (xD X) (xT X) (xlo X) hi g145) cw_L_174 ys_L_call dL_fails_25 rfl ⟨Nat.le_of_ble_eq_true rfl, Nat.le_of_ble_eq_true rfl⟩ ⟨by show m148 + _ = _; omega, by show 6 * m148 + _ = _; omega⟩ (Nat.le_of_ble_eq_true rfl) (st := []) rfl ?_
      refine z_ldc C (v := (-9999002 : Int32)) mw_467 dL_fails_28 ?_
      refine z_icmp_ne (tgt := 118) C dL_fails_30 (by decide) hf (fun hf => ?_) (fun hf => ?_)
      · refine z_sub [2, 3, 1, 0] rfl ?_
        exact kJ135 _ _ _ _ hf
      · refine z_aload_n C dL_fails_33 2 rfl rfl ?_
        refine z_bipush C (v := 10) dL_fails_34 (by decide) ?_
        obtain ⟨x150, h151, m152, n9, g149, hf, e9⟩ := zclE hf
        refine z_callL (kc' := n9) (ks' := 6 * n9) CL (ML_about (xl X) CL.2.2.2 (xD X) (xT X) (xlo X) hi g149) cw_L_180 ys_L_about dL_fails_36 rfl ⟨Nat.le_of_ble_eq_true rfl, Nat.le_of_ble_eq_true rfl⟩ ⟨by show m152 + _ = _; omega, by show 6 * m152 + _ = _; omega⟩ (Nat.le_of_ble_eq_true rfl) (st := []) rfl ?_
        refine z_ldc C (v := (-9999002 : Int32)) mw_467 dL_fails_39 ?_
        refine z_icmp_ne (tgt := 118) C dL_fails_41 (by decide) hf (fun hf => ?_) (fun hf => ?_)
        · refine z_sub [2, 3, 1, 0] rfl ?_
          exact kJ135 _ _ _ _ hf
        · refine z_aload_n C dL_fails_44 2 rfl rfl ?_
          refine z_iconst C (v := 3) dL_fails_45 (by decide) ?_
          refine z_iconst C (v := 2) dL_fails_46 (by decide) ?_
          refine z_iconst C (v := 0) dL_fails_47 (by decide) ?_
          refine z_iconst C (v := 0) dL_fails_48 (by decide) ?_
          refine z_iconst C (v := 0) dL_fails_49 (by decide) ?_
          obtain ⟨x154, h155, m156, n9, g153, hf, e9⟩ := zclE hf
          refine z_callL (kc' := n9) (ks' := 6 * n9) CL (ML_call (xl X) CL.2.2.2 (xD X) (xT X) (xlo X) hi g153) cw_L_174 ys_L_call dL_fails_50 rfl ⟨Nat.le_of_ble_eq_true rfl, Nat.le_of_ble_eq_true rfl⟩ ⟨by show m156 + _ = _; omega, by show 6 * m156 + _ = _; omega⟩ (Nat.le_of_ble_eq_true rfl) (st := []) rfl ?_
          refine z_ldc C (v := (-9999001 : Int32)) mw_644 dL_fails_53 ?_
          refine z_icmp_ne (tgt := 118) C dL_fails_55 (by decide) hf (fun hf => ?_) (fun hf => ?_)
          · refine z_sub [2, 3, 1, 0] rfl ?_
            exact kJ135 _ _ _ _ hf
          · refine z_aload_n C dL_fails_58 2 rfl rfl ?_
            refine z_iconst C (v := 3) dL_fails_59 (by decide) ?_
            refine z_iconst C (v := 0) dL_fails_60 (by decide) ?_
            refine z_iconst C (v := 5) dL_fails_61 (by decide) ?_
            refine z_iconst C (v := 0) dL_fails_62 (by decide) ?_
            refine z_iconst C (v := 0) dL_fails_63 (by decide) ?_
            obtain ⟨x158, h159, m160, n9, g157, hf, e9⟩ := zclE hf
            refine z_callL (kc' := n9) (ks' := 6 * n9) CL (ML_call (xl X) CL.2.2.2 (xD X) (xT X) (xlo X) hi g157) cw_L_174 ys_L_call dL_fails_64 rfl ⟨Nat.le_of_ble_eq_true rfl, Nat.le_of_ble_eq_true rfl⟩ ⟨by show m160 + _ = _; omega, by show 6 * m160 + _ = _; omega⟩ (Nat.le_of_ble_eq_true rfl) (st := []) rfl ?_
            refine z_ldc C (v := (-9999002 : Int32)) mw_467 dL_fails_67 ?_
            refine z_icmp_ne (tgt := 118) C dL_fails_69 (by decide) hf (fun hf => ?_) (fun hf => ?_)
            · refine z_sub [2, 3, 1, 0] rfl ?_
              exact kJ135 _ _ _ _ hf
            · refine z_aload_n C dL_fails_72 2 rfl rfl ?_
              refine z_iconst C (v := 4) dL_fails_73 (by decide) ?_
              refine z_iload_n C dL_fails_74 1 rfl rfl ?_
              refine z_iconst C (v := 0) dL_fails_75 (by decide) ?_
              refine z_iconst C (v := 0) dL_fails_76 (by decide) ?_
              refine z_iconst C (v := 0) dL_fails_77 (by decide) ?_
              obtain ⟨x162, h163, m164, n9, g161, hf, e9⟩ := zclE hf
              refine z_callL (kc' := n9) (ks' := 6 * n9) CL (ML_call (xl X) CL.2.2.2 (xD X) (xT X) (xlo X) hi g161) cw_L_174 ys_L_call dL_fails_78 rfl ⟨Nat.le_of_ble_eq_true rfl, Nat.le_of_ble_eq_true rfl⟩ ⟨by show m164 + _ = _; omega, by show 6 * m164 + _ = _; omega⟩ (Nat.le_of_ble_eq_true rfl) (st := []) rfl ?_
              refine z_ldc C (v := (-9999001 : Int32)) mw_644 dL_fails_81 ?_
              refine z_icmp_ne (tgt := 118) C dL_fails_83 (by decide) hf (fun hf => ?_) (fun hf => ?_)
              · refine z_sub [2, 3, 1, 0] rfl ?_
                exact kJ135 _ _ _ _ hf
              · refine z_aload_n C dL_fails_86 2 rfl rfl ?_
                refine z_iconst C (v := 4) dL_fails_87 (by decide) ?_
                refine z_iconst C (v := 0) dL_fails_88 (by decide) ?_
                refine z_iload_n C dL_fails_89 0 rfl rfl ?_
                refine z_iconst C (v := 0) dL_fails_90 (by decide) ?_
                refine z_iconst C (v := 0) dL_fails_91 (by decide) ?_
                obtain ⟨x166, h167, m168, n9, g165, hf, e9⟩ := zclE hf
                refine z_callL (kc' := n9) (ks' := 6 * n9) CL (ML_call (xl X) CL.2.2.2 (xD X) (xT X) (xlo X) hi g165) cw_L_174 ys_L_call dL_fails_92 rfl ⟨Nat.le_of_ble_eq_true rfl, Nat.le_of_ble_eq_true rfl⟩ ⟨by show m168 + _ = _; omega, by show 6 * m168 + _ = _; omega⟩ (Nat.le_of_ble_eq_true rfl) (st := []) rfl ?_
                refine z_ldc C (v := (-9999001 : Int32)) mw_644 dL_fails_95 ?_
                refine z_icmp_ne (tgt := 118) C dL_fails_97 (by decide) hf (fun hf => ?_) (fun hf => ?_)
                · refine z_sub [2, 3, 1, 0] rfl ?_
                  exact kJ135 _ _ _ _ hf
                · refine z_aload_n C dL_fails_100 2 rfl rfl ?_
                  refine z_iconst C (v := 5) dL_fails_101 (by decide) ?_
                  refine z_iconst C (v := 0) dL_fails_102 (by decide) ?_
                  refine z_iconst C (v := 0) dL_fails_103 (by decide) ?_
                  refine z_iconst C (v := 2) dL_fails_104 (by decide) ?_
                  refine z_iconst C (v := 0) dL_fails_105 (by decide) ?_
                  obtain ⟨x170, h171, m172, n9, g169, hf, e9⟩ := zclE hf
                  refine z_callL (kc' := n9) (ks' := 6 * n9) CL (ML_call (xl X) CL.2.2.2 (xD X) (xT X) (xlo X) hi g169) cw_L_174 ys_L_call dL_fails_106 rfl ⟨Nat.le_of_ble_eq_true rfl, Nat.le_of_ble_eq_true rfl⟩ ⟨by show m172 + _ = _; omega, by show 6 * m172 + _ = _; omega⟩ (Nat.le_of_ble_eq_true rfl) (st := []) rfl ?_
                  refine z_ldc C (v := (-9999001 : Int32)) mw_644 dL_fails_109 ?_
                  refine z_icmp_ne (tgt := 118) C dL_fails_111 (by decide) hf (fun hf => ?_) (fun hf => ?_)
                  · refine z_sub [2, 3, 1, 0] rfl ?_
                    exact kJ135 _ _ _ _ hf
                  · refine z_iconst C (v := 1) dL_fails_114 (by decide) ?_
                    refine z_goto (tgt := 119) C dL_fails_115 (by decide) ?_
                    refine z_sub [2, 3, 1, 0] rfl ?_
                    exact kJ5 _ _ _ _ _ hf
theorem ML_fails (l : Launch) (hl9 : l.stackTraces = false) (D : va_G) (T : zT) (lo hi : Nat) {h : zH} {p0 : Nat} {p1 : Int32} {rv : Int32} {rh : zH} {n9 : Nat} (hf : FL_fails T p0 p1 h = some (rv, rh, n9)) : zMW l yL_fails (.code yL_fails cL_fails 5 (some .boolean) :: TW) ({ frames := 11, cells := n9, slots := 6 * n9, locals := 241 } : Room) D T lo [.ref p0, .int p1] hi h (some (.int rv), hi, rh) :=
  z_enterL hl9 (own := RL) (nm := "fails") (lv := [(0, .ref p0), (1, .int p1)]) (by decide +kernel) rfl rfl (Nat.le_of_ble_eq_true rfl) rfl (fun _ _ _ _ _ _ _ _ C => BL_fails C hf)
