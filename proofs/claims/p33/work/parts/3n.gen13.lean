theorem mw_903 : (Jvm.Cond.methodLink "CrossedSheetLaw" (193 : Nat) ({ cls := "CrossedSheet", name := "turn", desc := "()I" } : Jvm.MethodName)) ∈ TW := TWm 903 (by decide +kernel) (by decide +kernel)
theorem mw_904 : (Jvm.Cond.instanceMethod ({ cls := "CrossedSheet", name := "turn", desc := "()I" } : Jvm.MethodName)) ∈ TW := TWm 904 (by decide +kernel) (by decide +kernel)
theorem mw_905 : (Jvm.Cond.selects "CrossedSheet" ({ cls := "CrossedSheet", name := "turn", desc := "()I" } : Jvm.MethodName) ({ cls := "CrossedSheet", name := "turn", desc := "()I" } : Jvm.MethodName)) ∈ TW := TWm 905 (by decide +kernel) (by decide +kernel)
theorem mw_906 : (Jvm.Cond.code ({ cls := "CrossedSheet", name := "turn", desc := "()I" } : Jvm.MethodName) prog_1_method_19_code (1 : Nat) (Option.some Jvm.ClassFile.FieldType.int)) ∈ TW := TWm 906 (by decide +kernel) (by decide +kernel)
theorem mw_919 : (Jvm.Cond.constantLong "CrossedSheetLaw" (196 : Nat) (70000 : Int64)) ∈ TW := TWm 919 (by decide +kernel) (by decide +kernel)
theorem mw_958 : (Jvm.Cond.constantLong "CrossedSheetLaw" (202 : Nat) (10000000000 : Int64)) ∈ TW := TWm 958 (by decide +kernel) (by decide +kernel)
theorem mw_959 : (Jvm.Cond.constantLong "CrossedSheetLaw" (204 : Nat) (5000070000 : Int64)) ∈ TW := TWm 959 (by decide +kernel) (by decide +kernel)
theorem mw_960 : (Jvm.Cond.constantLong "CrossedSheetLaw" (206 : Nat) (69999 : Int64)) ∈ TW := TWm 960 (by decide +kernel) (by decide +kernel)
theorem mw_961 : (Jvm.Cond.constantLong "CrossedSheetLaw" (208 : Nat) (60000 : Int64)) ∈ TW := TWm 961 (by decide +kernel) (by decide +kernel)
theorem mw_963 : (Jvm.Cond.constantLong "CrossedSheetLaw" (212 : Nat) (60001 : Int64)) ∈ TW := TWm 963 (by decide +kernel) (by decide +kernel)
theorem mw_964 : (Jvm.Cond.constantLong "CrossedSheetLaw" (214 : Nat) (61000 : Int64)) ∈ TW := TWm 964 (by decide +kernel) (by decide +kernel)
theorem mw_965 : (Jvm.Cond.constantLong "CrossedSheetLaw" (216 : Nat) (61001 : Int64)) ∈ TW := TWm 965 (by decide +kernel) (by decide +kernel)
theorem mw_966 : (Jvm.Cond.constantLong "CrossedSheetLaw" (218 : Nat) (80000 : Int64)) ∈ TW := TWm 966 (by decide +kernel) (by decide +kernel)
theorem mw_967 : (Jvm.Cond.constantLong "CrossedSheetLaw" (220 : Nat) (100 : Int64)) ∈ TW := TWm 967 (by decide +kernel) (by decide +kernel)
theorem mw_968 : (Jvm.Cond.constantLong "CrossedSheetLaw" (222 : Nat) (80001 : Int64)) ∈ TW := TWm 968 (by decide +kernel) (by decide +kernel)
theorem mw_985 : (Jvm.Cond.constant "CrossedSheetLaw" (235 : Nat) (65536 : Int32)) ∈ TW := TWm 985 (by decide +kernel) (by decide +kernel)
theorem yv_X6_turn : yX6_turn.cls = RX6 ∧ yX6_turn.cls ≠ "java/lang/invoke/MethodHandle" ∧ yX6_turn.cls ≠ "java/lang/invoke/VarHandle" ∧ (parseMethodDescriptor yX6_turn.desc).map (fun d => d.parameters.length) = some 0 := by decide +kernel
theorem cw_L_193 : GoodIn TW (wsV RL 193 RX6 yX6_turn (.code yX6_turn cX6_turn 1 (some .int) :: TW)) := zGV mw_903 mw_904 mw_905 mw_26 mw_906
theorem dL_act_0 : decode cL_act 0 = .ok (.iload_n 2, 1) := by decide +kernel
theorem dL_act_1 : decode cL_act 1 = .ok (.aload_n 0, 1) := by decide +kernel
theorem dL_act_2 : decode cL_act 2 = .ok (.iconst 0, 1) := by decide +kernel
theorem dL_act_3 : decode cL_act 3 = .ok (.invokestatic 180, 3) := by decide +kernel
theorem dL_act_6 : decode cL_act 6 = .ok (.irem, 1) := by decide +kernel
theorem dL_act_7 : decode cL_act 7 = .ok (.istore_n 3, 1) := by decide +kernel
theorem dL_act_8 : decode cL_act 8 = .ok (.iload_n 2, 1) := by decide +kernel
theorem dL_act_9 : decode cL_act 9 = .ok (.bipush 16, 2) := by decide +kernel
theorem dL_act_11 : decode cL_act 11 = .ok (.idiv, 1) := by decide +kernel
theorem dL_act_12 : decode cL_act 12 = .ok (.aload_n 0, 1) := by decide +kernel
theorem dL_act_13 : decode cL_act 13 = .ok (.iconst 1, 1) := by decide +kernel
theorem dL_act_14 : decode cL_act 14 = .ok (.invokestatic 180, 3) := by decide +kernel
theorem dL_act_17 : decode cL_act 17 = .ok (.irem, 1) := by decide +kernel
theorem dL_act_18 : decode cL_act 18 = .ok (.istore 4, 2) := by decide +kernel
theorem dL_act_20 : decode cL_act 20 = .ok (.iload_n 1, 1) := by decide +kernel
theorem dL_act_21 : decode cL_act 21 = .ok (.bipush 16, 2) := by decide +kernel
theorem dL_act_23 : decode cL_act 23 = .ok (.irem, 1) := by decide +kernel
theorem dL_act_24 : decode cL_act 24 = .ok (.tableswitch 236 0 14 #[76, 76, 76, 76, 76, 120, 138, 138, 138, 162, 191, 205, 220, 225, 225], 76) := by decide +kernel
theorem dL_act_100 : decode cL_act 100 = .ok (.aload_n 0, 1) := by decide +kernel
theorem dL_act_101 : decode cL_act 101 = .ok (.iload_n 3, 1) := by decide +kernel
theorem dL_act_102 : decode cL_act 102 = .ok (.iload 4, 2) := by decide +kernel
theorem dL_act_104 : decode cL_act 104 = .ok (.iload_n 2, 1) := by decide +kernel
theorem dL_act_105 : decode cL_act 105 = .ok (.sipush 256, 3) := by decide +kernel
theorem dL_act_108 : decode cL_act 108 = .ok (.idiv, 1) := by decide +kernel
theorem dL_act_109 : decode cL_act 109 = .ok (.iconst 3, 1) := by decide +kernel
theorem dL_act_110 : decode cL_act 110 = .ok (.irem, 1) := by decide +kernel
theorem dL_act_111 : decode cL_act 111 = .ok (.ifCond .ne 8, 3) := by decide +kernel
theorem dL_act_114 : decode cL_act 114 = .ok (.bipush 26, 2) := by decide +kernel
theorem dL_act_116 : decode cL_act 116 = .ok (.goto 10, 3) := by decide +kernel
theorem dL_act_119 : decode cL_act 119 = .ok (.iload_n 2, 1) := by decide +kernel
theorem dL_act_120 : decode cL_act 120 = .ok (.sipush 1024, 3) := by decide +kernel
theorem dL_act_123 : decode cL_act 123 = .ok (.idiv, 1) := by decide +kernel
theorem dL_act_124 : decode cL_act 124 = .ok (.iconst 5, 1) := by decide +kernel
theorem dL_act_125 : decode cL_act 125 = .ok (.irem, 1) := by decide +kernel
theorem dL_act_126 : decode cL_act 126 = .ok (.iload_n 2, 1) := by decide +kernel
theorem dL_act_127 : decode cL_act 127 = .ok (.sipush 8192, 3) := by decide +kernel
theorem dL_act_130 : decode cL_act 130 = .ok (.idiv, 1) := by decide +kernel
theorem dL_act_131 : decode cL_act 131 = .ok (.iconst 4, 1) := by decide +kernel
theorem dL_act_132 : decode cL_act 132 = .ok (.irem, 1) := by decide +kernel
theorem dL_act_133 : decode cL_act 133 = .ok (.iload_n 2, 1) := by decide +kernel
theorem dL_act_134 : decode cL_act 134 = .ok (.ldc 235, 2) := by decide +kernel
theorem dL_act_136 : decode cL_act 136 = .ok (.idiv, 1) := by decide +kernel
theorem dL_act_137 : decode cL_act 137 = .ok (.bipush 9, 2) := by decide +kernel
theorem dL_act_139 : decode cL_act 139 = .ok (.irem, 1) := by decide +kernel
theorem dL_act_140 : decode cL_act 140 = .ok (.invokestatic 224, 3) := by decide +kernel
theorem dL_act_143 : decode cL_act 143 = .ok (.ireturn, 1) := by decide +kernel
theorem dL_act_144 : decode cL_act 144 = .ok (.aload_n 0, 1) := by decide +kernel
theorem dL_act_145 : decode cL_act 145 = .ok (.bipush 9, 2) := by decide +kernel
theorem dL_act_147 : decode cL_act 147 = .ok (.iload_n 3, 1) := by decide +kernel
theorem dL_act_148 : decode cL_act 148 = .ok (.iload 4, 2) := by decide +kernel
theorem dL_act_150 : decode cL_act 150 = .ok (.iload_n 2, 1) := by decide +kernel
theorem dL_act_151 : decode cL_act 151 = .ok (.sipush 256, 3) := by decide +kernel
theorem dL_act_154 : decode cL_act 154 = .ok (.idiv, 1) := by decide +kernel
theorem dL_act_155 : decode cL_act 155 = .ok (.iconst 2, 1) := by decide +kernel
theorem dL_act_156 : decode cL_act 156 = .ok (.irem, 1) := by decide +kernel
theorem dL_act_157 : decode cL_act 157 = .ok (.iconst 0, 1) := by decide +kernel
theorem dL_act_158 : decode cL_act 158 = .ok (.invokestatic 174, 3) := by decide +kernel
theorem dL_act_161 : decode cL_act 161 = .ok (.ireturn, 1) := by decide +kernel
theorem dL_act_162 : decode cL_act 162 = .ok (.aload_n 0, 1) := by decide +kernel
theorem dL_act_163 : decode cL_act 163 = .ok (.bipush 10, 2) := by decide +kernel
theorem dL_act_165 : decode cL_act 165 = .ok (.iload_n 3, 1) := by decide +kernel
theorem dL_act_166 : decode cL_act 166 = .ok (.iload 4, 2) := by decide +kernel
theorem dL_act_168 : decode cL_act 168 = .ok (.iload_n 2, 1) := by decide +kernel
theorem dL_act_169 : decode cL_act 169 = .ok (.sipush 256, 3) := by decide +kernel
theorem dL_act_172 : decode cL_act 172 = .ok (.idiv, 1) := by decide +kernel
theorem dL_act_173 : decode cL_act 173 = .ok (.iconst 2, 1) := by decide +kernel
theorem dL_act_174 : decode cL_act 174 = .ok (.irem, 1) := by decide +kernel
theorem dL_act_175 : decode cL_act 175 = .ok (.iload_n 2, 1) := by decide +kernel
theorem dL_act_176 : decode cL_act 176 = .ok (.sipush 512, 3) := by decide +kernel
theorem dL_act_179 : decode cL_act 179 = .ok (.idiv, 1) := by decide +kernel
theorem dL_act_180 : decode cL_act 180 = .ok (.iconst 3, 1) := by decide +kernel
theorem dL_act_181 : decode cL_act 181 = .ok (.irem, 1) := by decide +kernel
theorem dL_act_182 : decode cL_act 182 = .ok (.invokestatic 174, 3) := by decide +kernel
theorem dL_act_185 : decode cL_act 185 = .ok (.ireturn, 1) := by decide +kernel
theorem dL_act_186 : decode cL_act 186 = .ok (.aload_n 0, 1) := by decide +kernel
theorem dL_act_187 : decode cL_act 187 = .ok (.bipush 11, 2) := by decide +kernel
theorem dL_act_189 : decode cL_act 189 = .ok (.iload_n 2, 1) := by decide +kernel
theorem dL_act_190 : decode cL_act 190 = .ok (.iconst 2, 1) := by decide +kernel
theorem dL_act_191 : decode cL_act 191 = .ok (.irem, 1) := by decide +kernel
theorem dL_act_192 : decode cL_act 192 = .ok (.iload_n 2, 1) := by decide +kernel
theorem dL_act_193 : decode cL_act 193 = .ok (.iconst 2, 1) := by decide +kernel
theorem dL_act_194 : decode cL_act 194 = .ok (.idiv, 1) := by decide +kernel
theorem dL_act_195 : decode cL_act 195 = .ok (.iconst 4, 1) := by decide +kernel
theorem dL_act_196 : decode cL_act 196 = .ok (.irem, 1) := by decide +kernel
theorem dL_act_197 : decode cL_act 197 = .ok (.iload_n 2, 1) := by decide +kernel
theorem dL_act_198 : decode cL_act 198 = .ok (.bipush 8, 2) := by decide +kernel
theorem dL_act_200 : decode cL_act 200 = .ok (.idiv, 1) := by decide +kernel
theorem dL_act_201 : decode cL_act 201 = .ok (.bipush 9, 2) := by decide +kernel
theorem dL_act_203 : decode cL_act 203 = .ok (.irem, 1) := by decide +kernel
theorem dL_act_204 : decode cL_act 204 = .ok (.iload_n 2, 1) := by decide +kernel
theorem dL_act_205 : decode cL_act 205 = .ok (.sipush 128, 3) := by decide +kernel
theorem dL_act_208 : decode cL_act 208 = .ok (.idiv, 1) := by decide +kernel
theorem dL_act_209 : decode cL_act 209 = .ok (.iconst 2, 1) := by decide +kernel
theorem dL_act_210 : decode cL_act 210 = .ok (.irem, 1) := by decide +kernel
theorem dL_act_211 : decode cL_act 211 = .ok (.invokestatic 174, 3) := by decide +kernel
theorem dL_act_214 : decode cL_act 214 = .ok (.ireturn, 1) := by decide +kernel
theorem dL_act_215 : decode cL_act 215 = .ok (.aload_n 0, 1) := by decide +kernel
theorem dL_act_216 : decode cL_act 216 = .ok (.bipush 12, 2) := by decide +kernel
theorem dL_act_218 : decode cL_act 218 = .ok (.iload_n 2, 1) := by decide +kernel
theorem dL_act_219 : decode cL_act 219 = .ok (.bipush 10, 2) := by decide +kernel
theorem dL_act_221 : decode cL_act 221 = .ok (.irem, 1) := by decide +kernel
theorem dL_act_222 : decode cL_act 222 = .ok (.iconst 0, 1) := by decide +kernel
theorem dL_act_223 : decode cL_act 223 = .ok (.iconst 0, 1) := by decide +kernel
theorem dL_act_224 : decode cL_act 224 = .ok (.iconst 0, 1) := by decide +kernel
theorem dL_act_225 : decode cL_act 225 = .ok (.invokestatic 174, 3) := by decide +kernel
theorem dL_act_228 : decode cL_act 228 = .ok (.ireturn, 1) := by decide +kernel
theorem dL_act_229 : decode cL_act 229 = .ok (.aload_n 0, 1) := by decide +kernel
theorem dL_act_230 : decode cL_act 230 = .ok (.bipush 13, 2) := by decide +kernel
theorem dL_act_232 : decode cL_act 232 = .ok (.iconst 1, 1) := by decide +kernel
theorem dL_act_233 : decode cL_act 233 = .ok (.iload_n 2, 1) := by decide +kernel
theorem dL_act_234 : decode cL_act 234 = .ok (.iconst 3, 1) := by decide +kernel
theorem dL_act_235 : decode cL_act 235 = .ok (.irem, 1) := by decide +kernel
theorem dL_act_236 : decode cL_act 236 = .ok (.iadd, 1) := by decide +kernel
theorem dL_act_237 : decode cL_act 237 = .ok (.iconst 0, 1) := by decide +kernel
theorem dL_act_238 : decode cL_act 238 = .ok (.iconst 0, 1) := by decide +kernel
theorem dL_act_239 : decode cL_act 239 = .ok (.iconst 0, 1) := by decide +kernel
theorem dL_act_240 : decode cL_act 240 = .ok (.invokestatic 174, 3) := by decide +kernel
theorem dL_act_243 : decode cL_act 243 = .ok (.ireturn, 1) := by decide +kernel
theorem dL_act_244 : decode cL_act 244 = .ok (.aload_n 0, 1) := by decide +kernel
theorem dL_act_245 : decode cL_act 245 = .ok (.invokevirtual 193, 3) := by decide +kernel
theorem dL_act_248 : decode cL_act 248 = .ok (.ireturn, 1) := by decide +kernel
theorem dL_act_249 : decode cL_act 249 = .ok (.aload_n 0, 1) := by decide +kernel
theorem dL_act_250 : decode cL_act 250 = .ok (.bipush 14, 2) := by decide +kernel
theorem dL_act_252 : decode cL_act 252 = .ok (.iconst 0, 1) := by decide +kernel
theorem dL_act_253 : decode cL_act 253 = .ok (.iconst 0, 1) := by decide +kernel
theorem dL_act_254 : decode cL_act 254 = .ok (.iconst 0, 1) := by decide +kernel
theorem dL_act_255 : decode cL_act 255 = .ok (.iconst 0, 1) := by decide +kernel
theorem dL_act_256 : decode cL_act 256 = .ok (.invokestatic 174, 3) := by decide +kernel
theorem dL_act_259 : decode cL_act 259 = .ok (.ireturn, 1) := by decide +kernel
theorem dL_act_260 : decode cL_act 260 = .ok (.iload_n 2, 1) := by decide +kernel
theorem dL_act_261 : decode cL_act 261 = .ok (.iconst 2, 1) := by decide +kernel
theorem dL_act_262 : decode cL_act 262 = .ok (.irem, 1) := by decide +kernel
theorem dL_act_263 : decode cL_act 263 = .ok (.ifCond .ne 16, 3) := by decide +kernel
theorem dL_act_266 : decode cL_act 266 = .ok (.aload_n 0, 1) := by decide +kernel
theorem dL_act_267 : decode cL_act 267 = .ok (.bipush 19, 2) := by decide +kernel
theorem dL_act_269 : decode cL_act 269 = .ok (.iconst 1, 1) := by decide +kernel
theorem dL_act_270 : decode cL_act 270 = .ok (.iconst 0, 1) := by decide +kernel
theorem dL_act_271 : decode cL_act 271 = .ok (.iconst 0, 1) := by decide +kernel
theorem dL_act_272 : decode cL_act 272 = .ok (.iconst 0, 1) := by decide +kernel
theorem dL_act_273 : decode cL_act 273 = .ok (.invokestatic 174, 3) := by decide +kernel
theorem dL_act_276 : decode cL_act 276 = .ok (.goto 13, 3) := by decide +kernel
theorem dL_act_279 : decode cL_act 279 = .ok (.aload_n 0, 1) := by decide +kernel
theorem dL_act_280 : decode cL_act 280 = .ok (.bipush 20, 2) := by decide +kernel
theorem dL_act_282 : decode cL_act 282 = .ok (.iconst 1, 1) := by decide +kernel
theorem dL_act_283 : decode cL_act 283 = .ok (.iconst 0, 1) := by decide +kernel
theorem dL_act_284 : decode cL_act 284 = .ok (.iconst 0, 1) := by decide +kernel
theorem dL_act_285 : decode cL_act 285 = .ok (.iconst 0, 1) := by decide +kernel
theorem dL_act_286 : decode cL_act 286 = .ok (.invokestatic 174, 3) := by decide +kernel
theorem dL_act_289 : decode cL_act 289 = .ok (.ireturn, 1) := by decide +kernel
def FL_act (T : zT) (p0 : Nat) (p1 : Int32) (p2 : Int32) (h : zH) : Option (Int32 × zH × Nat) := zJ (fun (h1 : zH) => zcl (FL_call T p0 14 0 0 0 0 h1) fun x4 h5 => some (x4, h5, 0)) (fun J2 => zJ (fun (x7 : Int32) (x8 : Int32) (h9 : zH) => (zdivI p2 256).bind fun x11 => (zremI x11 2).bind fun x12 => (zdivI p2 512).bind fun x13 => (zremI x13 3).bind fun x14 => zcl (FL_call T p0 10 x7 x8 x12 x14 h9) fun x16 h17 => some (x16, h17, 0)) (fun J10 => zJ (fun (x19 : Int32) (x20 : Int32) (h21 : zH) => zJ (fun (x23 : Int32) (x24 : Int32) (x25 : Int32) (x26 : Nat) => (zdivI p2 8192).bind fun x28 => (zremI x28 4).bind fun x29 => (zdivI p2 65536).bind fun x30 => (zremI x30 9).bind fun x31 => zcn 5 (FL_tryWrite T x26 x25 x24 x23 x29 x31 h21) fun x33 h34 => some (x33, h34, 0)) (fun J27 => (zdivI p2 256).bind fun x35 => (zremI x35 3).bind fun x36 => if x36 = 0 then (J27 26 x20 x19 p0) else ((zdivI p2 1024).bind fun x37 => (zremI x37 5).bind fun x38 => J27 x38 x20 x19 p0))) (fun J22 => zcl (FL_about T p0 0 h) fun x40 h41 => (zremI p2 x40).bind fun x43 => (zdivI p2 16).bind fun x44 => zcl (FL_about T p0 1 h41) fun x46 h47 => (zremI x44 x46).bind fun x49 => (zremI p1 16).bind fun x50 => if x50 = 0 then (J22 x43 x49 h47) else (if x50 = 1 then (J22 x43 x49 h47) else (if x50 = 2 then (J22 x43 x49 h47) else (if x50 = 3 then (J22 x43 x49 h47) else (if x50 = 4 then (J22 x43 x49 h47) else (if x50 = 5 then ((zdivI p2 256).bind fun x51 => (zremI x51 2).bind fun x52 => zcl (FL_call T p0 9 x43 x49 x52 0 h47) fun x54 h55 => some (x54, h55, 0)) else (if x50 = 6 then (J10 x43 x49 h47) else (if x50 = 7 then (J10 x43 x49 h47) else (if x50 = 8 then (J10 x43 x49 h47) else (if x50 = 9 then ((zremI p2 2).bind fun x57 => (zdivI p2 2).bind fun x58 => (zremI x58 4).bind fun x59 => (zdivI p2 8).bind fun x60 => (zremI x60 9).bind fun x61 => (zdivI p2 128).bind fun x62 => (zremI x62 2).bind fun x63 => zcl (FL_call T p0 11 x57 x59 x61 x63 h47) fun x65 h66 => some (x65, h66, 0)) else (if x50 = 10 then ((zremI p2 10).bind fun x68 => zcl (FL_call T p0 12 x68 0 0 0 h47) fun x70 h71 => some (x70, h71, 0)) else (if x50 = 11 then ((zremI p2 3).bind fun x73 => zcl (FL_call T p0 13 (1 + x73) 0 0 0 h47) fun x75 h76 => some (x75, h76, 0)) else (if x50 = 12 then (zb2 (FX6_turn T p0 h47) fun x79 h80 => some (x79, h80, 0)) else (if x50 = 13 then (J2 h47) else (if x50 = 14 then (J2 h47) else (zJ (fun (x81 : Int32) (h82 : zH) => some (x81, h82, 0)) (fun J83 => (zremI p2 2).bind fun x84 => if x84 = 0 then (zcl (FL_call T p0 19 1 0 0 0 h47) fun x90 h91 => J83 x90 h91) else (zcl (FL_call T p0 20 1 0 0 0 h47) fun x86 h87 => J83 x86 h87))))))))))))))))))))
set_option maxHeartbeats 4000000 in
set_option maxRecDepth 100000 in
theorem BL_act {X : zX} (CL : zCL X cL_act 5 RL "act" (some .int) 11 241) {hi : Nat} {h : zH} {p0 : Nat} {p1 : Int32} {p2 : Int32} {rv : Int32} {rh : zH} {n9 : Nat} (hf : FL_act (xT X) p0 p1 p2 h = some (rv, rh, n9)) : zW X 5 (zZ X false (some (.int rv), hi, rh)) n9 (6 * n9) false hi h 0 [(0, .ref p0), (1, .int p1), (2, .int p2)] [] := by
  have C := CL.1
  unfold FL_act at hf
  refine z_join (P := fun J => ∀ (h1 : zH) (n9 : Nat), J h1 = some (rv, rh, n9) → zW X 5 (zZ X false (some (.int rv), hi, rh)) n9 (6 * n9) false hi h1 249 [(0, .ref p0)] []) hf ?_ ?_
  · intro h1 n9 hf
    refine z_aload_n C dL_act_249 0 rfl rfl ?_
    refine z_bipush C (v := 14) dL_act_250 (by decide) ?_
    refine z_iconst C (v := 0) dL_act_252 (by decide) ?_
    refine z_iconst C (v := 0) dL_act_253 (by decide) ?_
    refine z_iconst C (v := 0) dL_act_254 (by decide) ?_
    refine z_iconst C (v := 0) dL_act_255 (by decide) ?_
    obtain ⟨x4, h5, m6, n9, g3, hf, e9⟩ := zclE hf
    refine z_callL (kc' := n9) (ks' := 6 * n9) CL (ML_call (xl X) CL.2.2.2 (xD X) (xT X) (xlo X) hi g3) cw_L_174 ys_L_call dL_act_256 rfl ⟨Nat.le_of_ble_eq_true rfl, Nat.le_of_ble_eq_true rfl⟩ ⟨by show m6 + _ = _; omega, by show 6 * m6 + _ = _; omega⟩ (Nat.le_of_ble_eq_true rfl) (st := []) rfl ?_
    exact z_ireturn C dL_act_259 (by cases hf; rfl)
  · intro J2 kJ2 hf
    refine z_join (P := fun J => ∀ (x7 : Int32) (x8 : Int32) (h9 : zH) (n9 : Nat), J x7 x8 h9 = some (rv, rh, n9) → zW X 5 (zZ X false (some (.int rv), hi, rh)) n9 (6 * n9) false hi h9 162 [(0, .ref p0), (2, .int p2), (3, .int x7), (4, .int x8)] []) hf ?_ ?_
    · intro x7 x8 h9 n9 hf
      refine z_aload_n C dL_act_162 0 rfl rfl ?_
      refine z_bipush C (v := 10) dL_act_163 (by decide) ?_
      refine z_iload_n C dL_act_165 2 rfl rfl ?_
      refine z_iload C dL_act_166 3 rfl ?_
      refine z_iload_n C dL_act_168 1 rfl rfl ?_
      refine z_sipush C (v := 256) dL_act_169 (by decide) ?_
      refine z_idiv C dL_act_172 hf (fun x11 _ hf => ?_)
      refine z_iconst C (v := 2) dL_act_173 (by decide) ?_
      refine z_irem C dL_act_174 hf (fun x12 _ hf => ?_)
      refine z_iload_n C dL_act_175 1 rfl rfl ?_
      refine z_sipush C (v := 512) dL_act_176 (by decide) ?_
      refine z_idiv C dL_act_179 hf (fun x13 _ hf => ?_)
      refine z_iconst C (v := 3) dL_act_180 (by decide) ?_
      refine z_irem C dL_act_181 hf (fun x14 _ hf => ?_)
      obtain ⟨x16, h17, m18, n9, g15, hf, e9⟩ := zclE hf
      refine z_callL (kc' := n9) (ks' := 6 * n9) CL (ML_call (xl X) CL.2.2.2 (xD X) (xT X) (xlo X) hi g15) cw_L_174 ys_L_call dL_act_182 rfl ⟨Nat.le_of_ble_eq_true rfl, Nat.le_of_ble_eq_true rfl⟩ ⟨by show m18 + _ = _; omega, by show 6 * m18 + _ = _; omega⟩ (Nat.le_of_ble_eq_true rfl) (st := []) rfl ?_
      exact z_ireturn C dL_act_185 (by cases hf; rfl)
    · intro J10 kJ10 hf
      refine z_join (P := fun J => ∀ (x19 : Int32) (x20 : Int32) (h21 : zH) (n9 : Nat), J x19 x20 h21 = some (rv, rh, n9) → zW X 5 (zZ X false (some (.int rv), hi, rh)) n9 (6 * n9) false hi h21 100 [(0, .ref p0), (2, .int p2), (3, .int x19), (4, .int x20)] []) hf ?_ ?_
      · intro x19 x20 h21 n9 hf
        refine z_join (P := fun J => ∀ (x23 : Int32) (x24 : Int32) (x25 : Int32) (x26 : Nat) (n9 : Nat), J x23 x24 x25 x26 = some (rv, rh, n9) → zW X 5 (zZ X false (some (.int rv), hi, rh)) n9 (6 * n9) false hi h21 126 [(2, .int p2)] [.int x23, .int x24, .int x25, .ref x26]) hf ?_ ?_
        · intro x23 x24 x25 x26 n9 hf
          refine z_iload_n C dL_act_126 0 rfl rfl ?_
          refine z_sipush C (v := 8192) dL_act_127 (by decide) ?_
          refine z_idiv C dL_act_130 hf (fun x28 _ hf => ?_)
          refine z_iconst C (v := 4) dL_act_131 (by decide) ?_
          refine z_irem C dL_act_132 hf (fun x29 _ hf => ?_)
          refine z_iload_n C dL_act_133 0 rfl rfl ?_
          refine z_ldc C (v := 65536) mw_985 dL_act_134 ?_
          refine z_idiv C dL_act_136 hf (fun x30 _ hf => ?_)
          refine z_bipush C (v := 9) dL_act_137 (by decide) ?_
          refine z_irem C dL_act_139 hf (fun x31 _ hf => ?_)
          obtain ⟨x33, h34, n9, g32, hf, e9⟩ := zcnE hf
          refine z_callLW (kc' := n9) (ks' := 6 * n9) CL (ML_tryWrite (xl X) CL.2.2.2 (xD X) (xT X) (xlo X) hi g32) cw_L_224 ys_L_tryWrite dL_act_140 rfl (by decide) ⟨by show 5 + _ = _; omega, by show 30 + _ = _; omega⟩ (Nat.le_of_ble_eq_true rfl) (st := []) rfl ?_
          exact z_ireturn C dL_act_143 (by cases hf; rfl)
        · intro J27 kJ27 hf
          refine z_aload_n C dL_act_100 0 rfl rfl ?_
          refine z_iload_n C dL_act_101 2 rfl rfl ?_
          refine z_iload C dL_act_102 3 rfl ?_
          refine z_iload_n C dL_act_104 1 rfl rfl ?_
          refine z_sipush C (v := 256) dL_act_105 (by decide) ?_
          refine z_idiv C dL_act_108 hf (fun x35 _ hf => ?_)
          refine z_iconst C (v := 3) dL_act_109 (by decide) ?_
          refine z_irem C dL_act_110 hf (fun x36 _ hf => ?_)
          refine z_if_ne (tgt := 119) C dL_act_111 (by decide) hf (fun hf => ?_) (fun hf => ?_)
          · refine z_iload_n C dL_act_119 1 rfl rfl ?_
            refine z_sipush C (v := 1024) dL_act_120 (by decide) ?_
            refine z_idiv C dL_act_123 hf (fun x37 _ hf => ?_)
            refine z_iconst C (v := 5) dL_act_124 (by decide) ?_
            refine z_irem C dL_act_125 hf (fun x38 _ hf => ?_)
            refine z_sub [1] rfl ?_
            exact kJ27 _ _ _ _ _ hf
          · refine z_bipush C (v := 26) dL_act_114 (by decide) ?_
            refine z_goto (tgt := 126) C dL_act_116 (by decide) ?_
            refine z_sub [1] rfl ?_
            exact kJ27 _ _ _ _ _ hf
      · intro J22 kJ22 hf
        refine z_iload_n C dL_act_0 2 rfl rfl ?_
        refine z_aload_n C dL_act_1 0 rfl rfl ?_
        refine z_iconst C (v := 0) dL_act_2 (by decide) ?_
        obtain ⟨x40, h41, m42, n9, g39, hf, e9⟩ := zclE hf
        refine z_callL (kc' := n9) (ks' := 6 * n9) CL (ML_about (xl X) CL.2.2.2 (xD X) (xT X) (xlo X) hi g39) cw_L_180 ys_L_about dL_act_3 rfl ⟨Nat.le_of_ble_eq_true rfl, Nat.le_of_ble_eq_true rfl⟩ ⟨by show m42 + _ = _; omega, by show 6 * m42 + _ = _; omega⟩ (Nat.le_of_ble_eq_true rfl) (st := [.int p2]) rfl ?_
        refine z_irem C dL_act_6 hf (fun x43 _ hf => ?_)
        refine z_istore_n C dL_act_7 rfl (by decide) (lv' := [(3, .int x43), (0, .ref p0), (1, .int p1), (2, .int p2)]) rfl ?_
        refine z_iload_n C dL_act_8 3 rfl rfl ?_
        refine z_bipush C (v := 16) dL_act_9 (by decide) ?_
        refine z_idiv C dL_act_11 hf (fun x44 _ hf => ?_)
        refine z_aload_n C dL_act_12 1 rfl rfl ?_
        refine z_iconst C (v := 1) dL_act_13 (by decide) ?_
        obtain ⟨x46, h47, m48, n9, g45, hf, e9⟩ := zclE hf
        refine z_callL (kc' := n9) (ks' := 6 * n9) CL (ML_about (xl X) CL.2.2.2 (xD X) (xT X) (xlo X) hi g45) cw_L_180 ys_L_about dL_act_14 rfl ⟨Nat.le_of_ble_eq_true rfl, Nat.le_of_ble_eq_true rfl⟩ ⟨by show m48 + _ = _; omega, by show 6 * m48 + _ = _; omega⟩ (Nat.le_of_ble_eq_true rfl) (st := [.int x44]) rfl ?_
        refine z_irem C dL_act_17 hf (fun x49 _ hf => ?_)
        refine z_istore C dL_act_18 (by decide) (lv' := [(4, .int x49), (3, .int x43), (0, .ref p0), (1, .int p1), (2, .int p2)]) rfl ?_
        refine z_iload_n C dL_act_20 3 rfl rfl ?_
        refine z_bipush C (v := 16) dL_act_21 (by decide) ?_
        refine z_irem C dL_act_23 hf (fun x50 _ hf => ?_)
        refine z_ite hf (fun c hf => ?_) (fun c0 hf => ?_)
        · refine z_tswIn (k := 0) (off := 76) (tgt := 100) C c dL_act_24 (by decide) (by decide) ?_
          refine z_sub [2, 4, 1, 0] rfl ?_
          exact kJ22 _ _ _ _ hf
        · refine z_ite hf (fun c hf => ?_) (fun c1 hf => ?_)
          · refine z_tswIn (k := 1) (off := 76) (tgt := 100) C c dL_act_24 (by decide) (by decide) ?_
            refine z_sub [2, 4, 1, 0] rfl ?_
            exact kJ22 _ _ _ _ hf
          · refine z_ite hf (fun c hf => ?_) (fun c2 hf => ?_)
            · refine z_tswIn (k := 2) (off := 76) (tgt := 100) C c dL_act_24 (by decide) (by decide) ?_
              refine z_sub [2, 4, 1, 0] rfl ?_
              exact kJ22 _ _ _ _ hf
            · refine z_ite hf (fun c hf => ?_) (fun c3 hf => ?_)
              · refine z_tswIn (k := 3) (off := 76) (tgt := 100) C c dL_act_24 (by decide) (by decide) ?_
                refine z_sub [2, 4, 1, 0] rfl ?_
                exact kJ22 _ _ _ _ hf
              · refine z_ite hf (fun c hf => ?_) (fun c4 hf => ?_)
                · refine z_tswIn (k := 4) (off := 76) (tgt := 100) C c dL_act_24 (by decide) (by decide) ?_
                  refine z_sub [2, 4, 1, 0] rfl ?_
                  exact kJ22 _ _ _ _ hf
                · refine z_ite hf (fun c hf => ?_) (fun c5 hf => ?_)
                  · refine z_tswIn (k := 5) (off := 120) (tgt := 144) C c dL_act_24 (by decide) (by decide) ?_
                    refine z_aload_n C dL_act_144 2 rfl rfl ?_
                    refine z_bipush C (v := 9) dL_act_145 (by decide) ?_
                    refine z_iload_n C dL_act_147 1 rfl rfl ?_
                    refine z_iload C dL_act_148 0 rfl ?_
                    refine z_iload_n C dL_act_150 4 rfl rfl ?_
                    refine z_sipush C (v := 256) dL_act_151 (by decide) ?_
                    refine z_idiv C dL_act_154 hf (fun x51 _ hf => ?_)
                    refine z_iconst C (v := 2) dL_act_155 (by decide) ?_
                    refine z_irem C dL_act_156 hf (fun x52 _ hf => ?_)
                    refine z_iconst C (v := 0) dL_act_157 (by decide) ?_
                    obtain ⟨x54, h55, m56, n9, g53, hf, e9⟩ := zclE hf
                    refine z_callL (kc' := n9) (ks' := 6 * n9) CL (ML_call (xl X) CL.2.2.2 (xD X) (xT X) (xlo X) hi g53) cw_L_174 ys_L_call dL_act_158 rfl ⟨Nat.le_of_ble_eq_true rfl, Nat.le_of_ble_eq_true rfl⟩ ⟨by show m56 + _ = _; omega, by show 6 * m56 + _ = _; omega⟩ (Nat.le_of_ble_eq_true rfl) (st := []) rfl ?_
                    exact z_ireturn C dL_act_161 (by cases hf; rfl)
                  · refine z_ite hf (fun c hf => ?_) (fun c6 hf => ?_)
                    · refine z_tswIn (k := 6) (off := 138) (tgt := 162) C c dL_act_24 (by decide) (by decide) ?_
                      refine z_sub [2, 4, 1, 0] rfl ?_
                      exact kJ10 _ _ _ _ hf
                    · refine z_ite hf (fun c hf => ?_) (fun c7 hf => ?_)
                      · refine z_tswIn (k := 7) (off := 138) (tgt := 162) C c dL_act_24 (by decide) (by decide) ?_
                        refine z_sub [2, 4, 1, 0] rfl ?_
                        exact kJ10 _ _ _ _ hf
                      · refine z_ite hf (fun c hf => ?_) (fun c8 hf => ?_)
                        · refine z_tswIn (k := 8) (off := 138) (tgt := 162) C c dL_act_24 (by decide) (by decide) ?_
                          refine z_sub [2, 4, 1, 0] rfl ?_
                          exact kJ10 _ _ _ _ hf
                        · refine z_ite hf (fun c hf => ?_) (fun c9 hf => ?_)
                          · refine z_tswIn (k := 9) (off := 162) (tgt := 186) C c dL_act_24 (by decide) (by decide) ?_
                            refine z_aload_n C dL_act_186 2 rfl rfl ?_
                            refine z_bipush C (v := 11) dL_act_187 (by decide) ?_
                            refine z_iload_n C dL_act_189 4 rfl rfl ?_
                            refine z_iconst C (v := 2) dL_act_190 (by decide) ?_
                            refine z_irem C dL_act_191 hf (fun x57 _ hf => ?_)
                            refine z_iload_n C dL_act_192 4 rfl rfl ?_
                            refine z_iconst C (v := 2) dL_act_193 (by decide) ?_
                            refine z_idiv C dL_act_194 hf (fun x58 _ hf => ?_)
                            refine z_iconst C (v := 4) dL_act_195 (by decide) ?_
                            refine z_irem C dL_act_196 hf (fun x59 _ hf => ?_)
                            refine z_iload_n C dL_act_197 4 rfl rfl ?_
                            refine z_bipush C (v := 8) dL_act_198 (by decide) ?_
                            refine z_idiv C dL_act_200 hf (fun x60 _ hf => ?_)
                            refine z_bipush C (v := 9) dL_act_201 (by decide) ?_
                            refine z_irem C dL_act_203 hf (fun x61 _ hf => ?_)
                            refine z_iload_n C dL_act_204 4 rfl rfl ?_
                            refine z_sipush C (v := 128) dL_act_205 (by decide) ?_
                            refine z_idiv C dL_act_208 hf (fun x62 _ hf => ?_)
                            refine z_iconst C (v := 2) dL_act_209 (by decide) ?_
                            refine z_irem C dL_act_210 hf (fun x63 _ hf => ?_)
                            obtain ⟨x65, h66, m67, n9, g64, hf, e9⟩ := zclE hf
                            refine z_callL (kc' := n9) (ks' := 6 * n9) CL (ML_call (xl X) CL.2.2.2 (xD X) (xT X) (xlo X) hi g64) cw_L_174 ys_L_call dL_act_211 rfl ⟨Nat.le_of_ble_eq_true rfl, Nat.le_of_ble_eq_true rfl⟩ ⟨by show m67 + _ = _; omega, by show 6 * m67 + _ = _; omega⟩ (Nat.le_of_ble_eq_true rfl) (st := []) rfl ?_
                            exact z_ireturn C dL_act_214 (by cases hf; rfl)
                          · refine z_ite hf (fun c hf => ?_) (fun c10 hf => ?_)
                            · refine z_tswIn (k := 10) (off := 191) (tgt := 215) C c dL_act_24 (by decide) (by decide) ?_
                              refine z_aload_n C dL_act_215 2 rfl rfl ?_
                              refine z_bipush C (v := 12) dL_act_216 (by decide) ?_
                              refine z_iload_n C dL_act_218 4 rfl rfl ?_
                              refine z_bipush C (v := 10) dL_act_219 (by decide) ?_
                              refine z_irem C dL_act_221 hf (fun x68 _ hf => ?_)
                              refine z_iconst C (v := 0) dL_act_222 (by decide) ?_
                              refine z_iconst C (v := 0) dL_act_223 (by decide) ?_
                              refine z_iconst C (v := 0) dL_act_224 (by decide) ?_
                              obtain ⟨x70, h71, m72, n9, g69, hf, e9⟩ := zclE hf
                              refine z_callL (kc' := n9) (ks' := 6 * n9) CL (ML_call (xl X) CL.2.2.2 (xD X) (xT X) (xlo X) hi g69) cw_L_174 ys_L_call dL_act_225 rfl ⟨Nat.le_of_ble_eq_true rfl, Nat.le_of_ble_eq_true rfl⟩ ⟨by show m72 + _ = _; omega, by show 6 * m72 + _ = _; omega⟩ (Nat.le_of_ble_eq_true rfl) (st := []) rfl ?_
                              exact z_ireturn C dL_act_228 (by cases hf; rfl)
                            · refine z_ite hf (fun c hf => ?_) (fun c11 hf => ?_)
                              · refine z_tswIn (k := 11) (off := 205) (tgt := 229) C c dL_act_24 (by decide) (by decide) ?_
                                refine z_aload_n C dL_act_229 2 rfl rfl ?_
                                refine z_bipush C (v := 13) dL_act_230 (by decide) ?_
                                refine z_iconst C (v := 1) dL_act_232 (by decide) ?_
                                refine z_iload_n C dL_act_233 4 rfl rfl ?_
                                refine z_iconst C (v := 3) dL_act_234 (by decide) ?_
                                refine z_irem C dL_act_235 hf (fun x73 _ hf => ?_)
                                refine z_iadd C dL_act_236 ?_
                                refine z_iconst C (v := 0) dL_act_237 (by decide) ?_
                                refine z_iconst C (v := 0) dL_act_238 (by decide) ?_
                                refine z_iconst C (v := 0) dL_act_239 (by decide) ?_
                                obtain ⟨x75, h76, m77, n9, g74, hf, e9⟩ := zclE hf
                                refine z_callL (kc' := n9) (ks' := 6 * n9) CL (ML_call (xl X) CL.2.2.2 (xD X) (xT X) (xlo X) hi g74) cw_L_174 ys_L_call dL_act_240 rfl ⟨Nat.le_of_ble_eq_true rfl, Nat.le_of_ble_eq_true rfl⟩ ⟨by show m77 + _ = _; omega, by show 6 * m77 + _ = _; omega⟩ (Nat.le_of_ble_eq_true rfl) (st := []) rfl ?_
                                exact z_ireturn C dL_act_243 (by cases hf; rfl)
                              · refine z_ite hf (fun c hf => ?_) (fun c12 hf => ?_)
                                · refine z_tswIn (k := 12) (off := 220) (tgt := 244) C c dL_act_24 (by decide) (by decide) ?_
                                  refine z_aload_n C dL_act_244 2 rfl rfl ?_
                                  obtain ⟨x79, h80, g78, hf⟩ := zbind2 hf
                                  refine z_callV C (MX6_turn (xl X) (xD X) (xT X) (xlo X) hi g78) (OX6_turn g78) rfl cw_L_193 yv_X6_turn dL_act_245 rfl (by decide) ⟨Nat.zero_add _, Nat.zero_add _⟩ (Nat.le_of_ble_eq_true rfl) (st := []) rfl ?_
                                  exact z_ireturn C dL_act_248 (by cases hf; rfl)
                                · refine z_ite hf (fun c hf => ?_) (fun c13 hf => ?_)
                                  · refine z_tswIn (k := 13) (off := 225) (tgt := 249) C c dL_act_24 (by decide) (by decide) ?_
                                    refine z_sub [2] rfl ?_
                                    exact kJ2 _ _ hf
                                  · refine z_ite hf (fun c hf => ?_) (fun c14 hf => ?_)
                                    · refine z_tswIn (k := 14) (off := 225) (tgt := 249) C c dL_act_24 (by decide) (by decide) ?_
                                      refine z_sub [2] rfl ?_
                                      exact kJ2 _ _ hf
                                    · refine z_tswOut (tgt := 260) C dL_act_24 (by have e0 := z_ne (i := 0) (by decide) c0; have e1 := z_ne (i := 1) (by decide) c1; have e2 := z_ne (i := 2) (by decide) c2; have e3 := z_ne (i := 3) (by decide) c3; have e4 := z_ne (i := 4) (by decide) c4; have e5 := z_ne (i := 5) (by decide) c5; have e6 := z_ne (i := 6) (by decide) c6; have e7 := z_ne (i := 7) (by decide) c7; have e8 := z_ne (i := 8) (by decide) c8; have e9 := z_ne (i := 9) (by decide) c9; have e10 := z_ne (i := 10) (by decide) c10; have e11 := z_ne (i := 11) (by decide) c11; have e12 := z_ne (i := 12) (by decide) c12; have e13 := z_ne (i := 13) (by decide) c13; have e14 := z_ne (i := 14) (by decide) c14; omega) (by decide) ?_
                                      refine z_join (P := fun J => ∀ (x81 : Int32) (h82 : zH) (n9 : Nat), J x81 h82 = some (rv, rh, n9) → zW X 5 (zZ X false (some (.int rv), hi, rh)) n9 (6 * n9) false hi h82 289 [] [.int x81]) hf ?_ ?_
                                      · intro x81 h82 n9 hf
                                        exact z_ireturn C dL_act_289 (by cases hf; rfl)
                                      · intro J83 kJ83 hf
                                        refine z_iload_n C dL_act_260 4 rfl rfl ?_
                                        refine z_iconst C (v := 2) dL_act_261 (by decide) ?_
                                        refine z_irem C dL_act_262 hf (fun x84 _ hf => ?_)
                                        refine z_if_ne (tgt := 279) C dL_act_263 (by decide) hf (fun hf => ?_) (fun hf => ?_)
                                        · refine z_aload_n C dL_act_279 2 rfl rfl ?_
                                          refine z_bipush C (v := 20) dL_act_280 (by decide) ?_
                                          refine z_iconst C (v := 1) dL_act_282 (by decide) ?_
                                          refine z_iconst C (v := 0) dL_act_283 (by decide) ?_
                                          refine z_iconst C (v := 0) dL_act_284 (by decide) ?_
                                          refine z_iconst C (v := 0) dL_act_285 (by decide) ?_
                                          obtain ⟨x86, h87, m88, n9, g85, hf, e9⟩ := zclE hf
                                          refine z_callL (kc' := n9) (ks' := 6 * n9) CL (ML_call (xl X) CL.2.2.2 (xD X) (xT X) (xlo X) hi g85) cw_L_174 ys_L_call dL_act_286 rfl ⟨Nat.le_of_ble_eq_true rfl, Nat.le_of_ble_eq_true rfl⟩ ⟨by show m88 + _ = _; omega, by show 6 * m88 + _ = _; omega⟩ (Nat.le_of_ble_eq_true rfl) (st := []) rfl ?_
                                          refine z_sub [] rfl ?_
                                          exact kJ83 _ _ _ hf
                                        · refine z_aload_n C dL_act_266 2 rfl rfl ?_
                                          refine z_bipush C (v := 19) dL_act_267 (by decide) ?_
                                          refine z_iconst C (v := 1) dL_act_269 (by decide) ?_
                                          refine z_iconst C (v := 0) dL_act_270 (by decide) ?_
                                          refine z_iconst C (v := 0) dL_act_271 (by decide) ?_
                                          refine z_iconst C (v := 0) dL_act_272 (by decide) ?_
                                          obtain ⟨x90, h91, m92, n9, g89, hf, e9⟩ := zclE hf
                                          refine z_callL (kc' := n9) (ks' := 6 * n9) CL (ML_call (xl X) CL.2.2.2 (xD X) (xT X) (xlo X) hi g89) cw_L_174 ys_L_call dL_act_273 rfl ⟨Nat.le_of_ble_eq_true rfl, Nat.le_of_ble_eq_true rfl⟩ ⟨by show m92 + _ = _; omega, by show 6 * m92 + _ = _; omega⟩ (Nat.le_of_ble_eq_true rfl) (st := []) rfl ?_
                                          refine z_goto (tgt := 289) C dL_act_276 (by decide) ?_
                                          refine z_sub [] rfl ?_
                                          exact kJ83 _ _ _ hf
theorem ML_act (l : Launch) (hl9 : l.stackTraces = false) (D : va_G) (T : zT) (lo hi : Nat) {h : zH} {p0 : Nat} {p1 : Int32} {p2 : Int32} {rv : Int32} {rh : zH} {n9 : Nat} (hf : FL_act T p0 p1 p2 h = some (rv, rh, n9)) : zMW l yL_act (.code yL_act cL_act 5 (some .int) :: TW) ({ frames := 11, cells := n9, slots := 6 * n9, locals := 241 } : Room) D T lo [.ref p0, .int p1, .int p2] hi h (some (.int rv), hi, rh) :=
  z_enterL hl9 (own := RL) (nm := "act") (lv := [(0, .ref p0), (1, .int p1), (2, .int p2)]) (by decide +kernel) rfl rfl (Nat.le_of_ble_eq_true rfl) rfl (fun _ _ _ _ _ _ _ _ C => BL_act C hf)
theorem dL_scripts_0 : decode cL_scripts 0 = .ok (.aload_n 0, 1) := by decide +kernel
theorem dL_scripts_1 : decode cL_scripts 1 = .ok (.iconst 3, 1) := by decide +kernel
theorem dL_scripts_2 : decode cL_scripts 2 = .ok (.invokestatic 180, 3) := by decide +kernel
theorem dL_scripts_5 : decode cL_scripts 5 = .ok (.istore_n 1, 1) := by decide +kernel
theorem dL_scripts_6 : decode cL_scripts 6 = .ok (.aload_n 0, 1) := by decide +kernel
theorem dL_scripts_7 : decode cL_scripts 7 = .ok (.iconst 3, 1) := by decide +kernel
theorem dL_scripts_8 : decode cL_scripts 8 = .ok (.iconst 0, 1) := by decide +kernel
theorem dL_scripts_9 : decode cL_scripts 9 = .ok (.iconst 3, 1) := by decide +kernel
theorem dL_scripts_10 : decode cL_scripts 10 = .ok (.iconst 0, 1) := by decide +kernel
theorem dL_scripts_11 : decode cL_scripts 11 = .ok (.iconst 0, 1) := by decide +kernel
theorem dL_scripts_12 : decode cL_scripts 12 = .ok (.invokestatic 174, 3) := by decide +kernel
theorem dL_scripts_15 : decode cL_scripts 15 = .ok (.istore_n 2, 1) := by decide +kernel
theorem dL_scripts_16 : decode cL_scripts 16 = .ok (.aload_n 0, 1) := by decide +kernel
theorem dL_scripts_17 : decode cL_scripts 17 = .ok (.iconst 3, 1) := by decide +kernel
theorem dL_scripts_18 : decode cL_scripts 18 = .ok (.iconst 1, 1) := by decide +kernel
theorem dL_scripts_19 : decode cL_scripts 19 = .ok (.iconst 3, 1) := by decide +kernel
theorem dL_scripts_20 : decode cL_scripts 20 = .ok (.iconst 0, 1) := by decide +kernel
theorem dL_scripts_21 : decode cL_scripts 21 = .ok (.iconst 0, 1) := by decide +kernel
theorem dL_scripts_22 : decode cL_scripts 22 = .ok (.invokestatic 174, 3) := by decide +kernel
theorem dL_scripts_25 : decode cL_scripts 25 = .ok (.istore_n 3, 1) := by decide +kernel
theorem dL_scripts_26 : decode cL_scripts 26 = .ok (.iload_n 1, 1) := by decide +kernel
theorem dL_scripts_27 : decode cL_scripts 27 = .ok (.bipush 98, 2) := by decide +kernel
theorem dL_scripts_29 : decode cL_scripts 29 = .ok (.if_icmp .gt 64, 3) := by decide +kernel
theorem dL_scripts_32 : decode cL_scripts 32 = .ok (.aload_n 0, 1) := by decide +kernel
theorem dL_scripts_33 : decode cL_scripts 33 = .ok (.iconst 1, 1) := by decide +kernel
theorem dL_scripts_34 : decode cL_scripts 34 = .ok (.ldc2_w 196, 3) := by decide +kernel
theorem dL_scripts_37 : decode cL_scripts 37 = .ok (.iload_n 1, 1) := by decide +kernel
theorem dL_scripts_38 : decode cL_scripts 38 = .ok (.i2l, 1) := by decide +kernel
theorem dL_scripts_39 : decode cL_scripts 39 = .ok (.ladd, 1) := by decide +kernel
theorem dL_scripts_40 : decode cL_scripts 40 = .ok (.invokestatic 198, 3) := by decide +kernel
theorem dL_scripts_43 : decode cL_scripts 43 = .ok (.bipush (-9), 2) := by decide +kernel
theorem dL_scripts_45 : decode cL_scripts 45 = .ok (.if_icmp .ne 52, 3) := by decide +kernel
theorem dL_scripts_48 : decode cL_scripts 48 = .ok (.aload_n 0, 1) := by decide +kernel
theorem dL_scripts_49 : decode cL_scripts 49 = .ok (.iconst 3, 1) := by decide +kernel
theorem dL_scripts_50 : decode cL_scripts 50 = .ok (.ldc2_w 196, 3) := by decide +kernel
theorem dL_scripts_53 : decode cL_scripts 53 = .ok (.iload_n 1, 1) := by decide +kernel
theorem dL_scripts_54 : decode cL_scripts 54 = .ok (.i2l, 1) := by decide +kernel
theorem dL_scripts_55 : decode cL_scripts 55 = .ok (.ladd, 1) := by decide +kernel
theorem dL_scripts_56 : decode cL_scripts 56 = .ok (.ldc2_w 202, 3) := by decide +kernel
theorem dL_scripts_59 : decode cL_scripts 59 = .ok (.lmul, 1) := by decide +kernel
theorem dL_scripts_60 : decode cL_scripts 60 = .ok (.ldc2_w 204, 3) := by decide +kernel
theorem dL_scripts_63 : decode cL_scripts 63 = .ok (.ladd, 1) := by decide +kernel
theorem dL_scripts_64 : decode cL_scripts 64 = .ok (.iload_n 1, 1) := by decide +kernel
theorem dL_scripts_65 : decode cL_scripts 65 = .ok (.i2l, 1) := by decide +kernel
theorem dL_scripts_66 : decode cL_scripts 66 = .ok (.ladd, 1) := by decide +kernel
theorem dL_scripts_67 : decode cL_scripts 67 = .ok (.invokestatic 198, 3) := by decide +kernel
theorem dL_scripts_70 : decode cL_scripts 70 = .ok (.bipush (-9), 2) := by decide +kernel
theorem dL_scripts_72 : decode cL_scripts 72 = .ok (.if_icmp .ne 25, 3) := by decide +kernel
theorem dL_scripts_75 : decode cL_scripts 75 = .ok (.iload_n 1, 1) := by decide +kernel
theorem dL_scripts_76 : decode cL_scripts 76 = .ok (.ifCond .eq 17, 3) := by decide +kernel
theorem dL_scripts_79 : decode cL_scripts 79 = .ok (.aload_n 0, 1) := by decide +kernel
theorem dL_scripts_80 : decode cL_scripts 80 = .ok (.iconst 1, 1) := by decide +kernel
theorem dL_scripts_81 : decode cL_scripts 81 = .ok (.ldc2_w 206, 3) := by decide +kernel
theorem dL_scripts_84 : decode cL_scripts 84 = .ok (.iload_n 1, 1) := by decide +kernel
theorem dL_scripts_85 : decode cL_scripts 85 = .ok (.i2l, 1) := by decide +kernel
theorem dL_scripts_86 : decode cL_scripts 86 = .ok (.ladd, 1) := by decide +kernel
theorem dL_scripts_87 : decode cL_scripts 87 = .ok (.invokestatic 198, 3) := by decide +kernel
theorem dL_scripts_90 : decode cL_scripts 90 = .ok (.ifCond .ne 7, 3) := by decide +kernel
theorem dL_scripts_93 : decode cL_scripts 93 = .ok (.iconst 1, 1) := by decide +kernel
theorem dL_scripts_94 : decode cL_scripts 94 = .ok (.goto 4, 3) := by decide +kernel
theorem dL_scripts_97 : decode cL_scripts 97 = .ok (.iconst 0, 1) := by decide +kernel
theorem dL_scripts_98 : decode cL_scripts 98 = .ok (.istore 4, 2) := by decide +kernel
theorem dL_scripts_100 : decode cL_scripts 100 = .ok (.iload 4, 2) := by decide +kernel
theorem dL_scripts_102 : decode cL_scripts 102 = .ok (.iload_n 2, 1) := by decide +kernel
theorem dL_scripts_103 : decode cL_scripts 103 = .ok (.bipush 98, 2) := by decide +kernel
theorem dL_scripts_105 : decode cL_scripts 105 = .ok (.if_icmp .gt 29, 3) := by decide +kernel
theorem dL_scripts_108 : decode cL_scripts 108 = .ok (.aload_n 0, 1) := by decide +kernel
theorem dL_scripts_109 : decode cL_scripts 109 = .ok (.iconst 2, 1) := by decide +kernel
theorem dL_scripts_110 : decode cL_scripts 110 = .ok (.ldc2_w 208, 3) := by decide +kernel
theorem dL_scripts_113 : decode cL_scripts 113 = .ok (.iload_n 2, 1) := by decide +kernel
theorem dL_scripts_114 : decode cL_scripts 114 = .ok (.i2l, 1) := by decide +kernel
theorem dL_scripts_115 : decode cL_scripts 115 = .ok (.ladd, 1) := by decide +kernel
theorem dL_scripts_116 : decode cL_scripts 116 = .ok (.ldc2_w 210, 3) := by decide +kernel
theorem dL_scripts_119 : decode cL_scripts 119 = .ok (.lmul, 1) := by decide +kernel
theorem dL_scripts_120 : decode cL_scripts 120 = .ok (.ldc2_w 212, 3) := by decide +kernel
theorem dL_scripts_123 : decode cL_scripts 123 = .ok (.ladd, 1) := by decide +kernel
theorem dL_scripts_124 : decode cL_scripts 124 = .ok (.iload_n 2, 1) := by decide +kernel
theorem dL_scripts_125 : decode cL_scripts 125 = .ok (.i2l, 1) := by decide +kernel
theorem dL_scripts_126 : decode cL_scripts 126 = .ok (.ladd, 1) := by decide +kernel
theorem dL_scripts_127 : decode cL_scripts 127 = .ok (.invokestatic 198, 3) := by decide +kernel
theorem dL_scripts_130 : decode cL_scripts 130 = .ok (.iconst 1, 1) := by decide +kernel
theorem dL_scripts_131 : decode cL_scripts 131 = .ok (.if_icmp .ne 7, 3) := by decide +kernel
theorem dL_scripts_134 : decode cL_scripts 134 = .ok (.iconst 1, 1) := by decide +kernel
theorem dL_scripts_135 : decode cL_scripts 135 = .ok (.goto 4, 3) := by decide +kernel
theorem dL_scripts_138 : decode cL_scripts 138 = .ok (.iconst 0, 1) := by decide +kernel
theorem dL_scripts_139 : decode cL_scripts 139 = .ok (.iand, 1) := by decide +kernel
theorem dL_scripts_140 : decode cL_scripts 140 = .ok (.istore 4, 2) := by decide +kernel
theorem dL_scripts_142 : decode cL_scripts 142 = .ok (.iload 4, 2) := by decide +kernel
theorem dL_scripts_144 : decode cL_scripts 144 = .ok (.iload_n 3, 1) := by decide +kernel
theorem dL_scripts_145 : decode cL_scripts 145 = .ok (.bipush 98, 2) := by decide +kernel
theorem dL_scripts_147 : decode cL_scripts 147 = .ok (.if_icmp .gt 29, 3) := by decide +kernel
theorem dL_scripts_150 : decode cL_scripts 150 = .ok (.aload_n 0, 1) := by decide +kernel
theorem dL_scripts_151 : decode cL_scripts 151 = .ok (.iconst 2, 1) := by decide +kernel
theorem dL_scripts_152 : decode cL_scripts 152 = .ok (.ldc2_w 214, 3) := by decide +kernel
theorem dL_scripts_155 : decode cL_scripts 155 = .ok (.iload_n 3, 1) := by decide +kernel
theorem dL_scripts_156 : decode cL_scripts 156 = .ok (.i2l, 1) := by decide +kernel
theorem dL_scripts_157 : decode cL_scripts 157 = .ok (.ladd, 1) := by decide +kernel
theorem dL_scripts_158 : decode cL_scripts 158 = .ok (.ldc2_w 210, 3) := by decide +kernel
theorem dL_scripts_161 : decode cL_scripts 161 = .ok (.lmul, 1) := by decide +kernel
theorem dL_scripts_162 : decode cL_scripts 162 = .ok (.ldc2_w 216, 3) := by decide +kernel
theorem dL_scripts_165 : decode cL_scripts 165 = .ok (.ladd, 1) := by decide +kernel
theorem dL_scripts_166 : decode cL_scripts 166 = .ok (.iload_n 3, 1) := by decide +kernel
theorem dL_scripts_167 : decode cL_scripts 167 = .ok (.i2l, 1) := by decide +kernel
theorem dL_scripts_168 : decode cL_scripts 168 = .ok (.ladd, 1) := by decide +kernel
theorem dL_scripts_169 : decode cL_scripts 169 = .ok (.invokestatic 198, 3) := by decide +kernel
theorem dL_scripts_172 : decode cL_scripts 172 = .ok (.iconst 1, 1) := by decide +kernel
theorem dL_scripts_173 : decode cL_scripts 173 = .ok (.if_icmp .ne 7, 3) := by decide +kernel
theorem dL_scripts_176 : decode cL_scripts 176 = .ok (.iconst 1, 1) := by decide +kernel
theorem dL_scripts_177 : decode cL_scripts 177 = .ok (.goto 4, 3) := by decide +kernel
theorem dL_scripts_180 : decode cL_scripts 180 = .ok (.iconst 0, 1) := by decide +kernel
theorem dL_scripts_181 : decode cL_scripts 181 = .ok (.iand, 1) := by decide +kernel
theorem dL_scripts_182 : decode cL_scripts 182 = .ok (.istore 4, 2) := by decide +kernel
theorem dL_scripts_184 : decode cL_scripts 184 = .ok (.iload_n 2, 1) := by decide +kernel
theorem dL_scripts_185 : decode cL_scripts 185 = .ok (.ifCond .ne 7, 3) := by decide +kernel
theorem dL_scripts_188 : decode cL_scripts 188 = .ok (.iconst 0, 1) := by decide +kernel
theorem dL_scripts_189 : decode cL_scripts 189 = .ok (.goto 15, 3) := by decide +kernel
theorem dL_scripts_192 : decode cL_scripts 192 = .ok (.aload_n 0, 1) := by decide +kernel
theorem dL_scripts_193 : decode cL_scripts 193 = .ok (.bipush 6, 2) := by decide +kernel
theorem dL_scripts_195 : decode cL_scripts 195 = .ok (.iconst 0, 1) := by decide +kernel
theorem dL_scripts_196 : decode cL_scripts 196 = .ok (.iload_n 2, 1) := by decide +kernel
theorem dL_scripts_197 : decode cL_scripts 197 = .ok (.iconst 1, 1) := by decide +kernel
theorem dL_scripts_198 : decode cL_scripts 198 = .ok (.isub, 1) := by decide +kernel
theorem dL_scripts_199 : decode cL_scripts 199 = .ok (.iconst 0, 1) := by decide +kernel
theorem dL_scripts_200 : decode cL_scripts 200 = .ok (.iconst 0, 1) := by decide +kernel
theorem dL_scripts_201 : decode cL_scripts 201 = .ok (.invokestatic 174, 3) := by decide +kernel
theorem dL_scripts_204 : decode cL_scripts 204 = .ok (.istore 5, 2) := by decide +kernel
theorem dL_scripts_206 : decode cL_scripts 206 = .ok (.iload 4, 2) := by decide +kernel
theorem dL_scripts_208 : decode cL_scripts 208 = .ok (.ifCond .eq 70, 3) := by decide +kernel
theorem dL_scripts_211 : decode cL_scripts 211 = .ok (.iload_n 2, 1) := by decide +kernel
theorem dL_scripts_212 : decode cL_scripts 212 = .ok (.ifCond .eq 62, 3) := by decide +kernel
theorem dL_scripts_215 : decode cL_scripts 215 = .ok (.iload_n 2, 1) := by decide +kernel
theorem dL_scripts_216 : decode cL_scripts 216 = .ok (.bipush 10, 2) := by decide +kernel
theorem dL_scripts_218 : decode cL_scripts 218 = .ok (.if_icmp .gt 56, 3) := by decide +kernel
theorem dL_scripts_221 : decode cL_scripts 221 = .ok (.iload 5, 2) := by decide +kernel
theorem dL_scripts_223 : decode cL_scripts 223 = .ok (.bipush 98, 2) := by decide +kernel
theorem dL_scripts_225 : decode cL_scripts 225 = .ok (.if_icmp .gt 49, 3) := by decide +kernel
theorem dL_scripts_228 : decode cL_scripts 228 = .ok (.aload_n 0, 1) := by decide +kernel
theorem dL_scripts_229 : decode cL_scripts 229 = .ok (.iconst 2, 1) := by decide +kernel
theorem dL_scripts_230 : decode cL_scripts 230 = .ok (.ldc2_w 218, 3) := by decide +kernel
theorem dL_scripts_233 : decode cL_scripts 233 = .ok (.ldc2_w 220, 3) := by decide +kernel
theorem dL_scripts_236 : decode cL_scripts 236 = .ok (.iload_n 2, 1) := by decide +kernel
theorem dL_scripts_237 : decode cL_scripts 237 = .ok (.iconst 1, 1) := by decide +kernel
theorem dL_scripts_238 : decode cL_scripts 238 = .ok (.isub, 1) := by decide +kernel
theorem dL_scripts_239 : decode cL_scripts 239 = .ok (.i2l, 1) := by decide +kernel
theorem dL_scripts_240 : decode cL_scripts 240 = .ok (.lmul, 1) := by decide +kernel
theorem dL_scripts_241 : decode cL_scripts 241 = .ok (.ladd, 1) := by decide +kernel
theorem dL_scripts_242 : decode cL_scripts 242 = .ok (.iload 5, 2) := by decide +kernel
theorem dL_scripts_244 : decode cL_scripts 244 = .ok (.i2l, 1) := by decide +kernel
theorem dL_scripts_245 : decode cL_scripts 245 = .ok (.ladd, 1) := by decide +kernel
theorem dL_scripts_246 : decode cL_scripts 246 = .ok (.ldc2_w 210, 3) := by decide +kernel
theorem dL_scripts_249 : decode cL_scripts 249 = .ok (.lmul, 1) := by decide +kernel
theorem dL_scripts_250 : decode cL_scripts 250 = .ok (.ldc2_w 222, 3) := by decide +kernel
theorem dL_scripts_253 : decode cL_scripts 253 = .ok (.ladd, 1) := by decide +kernel
theorem dL_scripts_254 : decode cL_scripts 254 = .ok (.ldc2_w 220, 3) := by decide +kernel
theorem dL_scripts_257 : decode cL_scripts 257 = .ok (.iload_n 2, 1) := by decide +kernel
theorem dL_scripts_258 : decode cL_scripts 258 = .ok (.iconst 1, 1) := by decide +kernel
theorem dL_scripts_259 : decode cL_scripts 259 = .ok (.isub, 1) := by decide +kernel
theorem dL_scripts_260 : decode cL_scripts 260 = .ok (.i2l, 1) := by decide +kernel
theorem dL_scripts_261 : decode cL_scripts 261 = .ok (.lmul, 1) := by decide +kernel
theorem dL_scripts_262 : decode cL_scripts 262 = .ok (.ladd, 1) := by decide +kernel
theorem dL_scripts_263 : decode cL_scripts 263 = .ok (.iload 5, 2) := by decide +kernel
theorem dL_scripts_265 : decode cL_scripts 265 = .ok (.i2l, 1) := by decide +kernel
theorem dL_scripts_266 : decode cL_scripts 266 = .ok (.ladd, 1) := by decide +kernel
theorem dL_scripts_267 : decode cL_scripts 267 = .ok (.invokestatic 198, 3) := by decide +kernel
theorem dL_scripts_270 : decode cL_scripts 270 = .ok (.iconst 1, 1) := by decide +kernel
theorem dL_scripts_271 : decode cL_scripts 271 = .ok (.if_icmp .ne 7, 3) := by decide +kernel
theorem dL_scripts_274 : decode cL_scripts 274 = .ok (.iconst 1, 1) := by decide +kernel
theorem dL_scripts_275 : decode cL_scripts 275 = .ok (.goto 4, 3) := by decide +kernel
theorem dL_scripts_278 : decode cL_scripts 278 = .ok (.iconst 0, 1) := by decide +kernel
theorem dL_scripts_279 : decode cL_scripts 279 = .ok (.ireturn, 1) := by decide +kernel
def FL_scripts (T : zT) (p0 : Nat) (h : zH) : Option (Int32 × zH × Nat) := zJ (fun (x1 : Int32) (x2 : Int32) (x3 : Int32) (h4 : zH) => zJ (fun (x6 : Int32) (x7 : Int32) (h8 : zH) => zJ (fun (x10 : Int32) (x11 : Int32) (h12 : zH) => zJ (fun (x14 : Int32) (x15 : Int32) (h16 : zH) => zJ (fun (x18 : Int32) (h19 : zH) => if x18 = 0 ∨ x18 = 1 then some (x18, h19, 0) else none) (fun J20 => zJ (fun (h21 : zH) => J20 0 h21) (fun J22 => if x14 = 0 then (J22 h16) else (zJ (fun (h23 : zH) => J20 1 h23) (fun J24 => if x1 = 0 then (J24 h16) else (if 10 < x1 then (J24 h16) else (if 98 < x15 then (J24 h16) else (zcn 2 (FL_tryScript T p0 2 (((((((80000 : Int64) + ((100 : Int64) * ((x1 - 1).toInt64))) + x15.toInt64) * (100000 : Int64)) + (80001 : Int64)) + ((100 : Int64) * ((x1 - 1).toInt64))) + x15.toInt64) h16) fun x26 h27 => if x26 = 1 then (J24 h27) else (J22 h27))))))))) (fun J17 => if x1 = 0 then (J17 (x11 &&& x10) 0 h12) else (zcl (FL_call T p0 6 0 (x1 - 1) 0 0 h12) fun x29 h30 => J17 (x11 &&& x10) x29 h30))) (fun J13 => zJ (fun (x32 : Int32) (h33 : zH) => J13 1 x32 h33) (fun J34 => if 98 < x2 then (J34 (x7 &&& x6) h8) else (zcn 2 (FL_tryScript T p0 2 (((((61000 : Int64) + x2.toInt64) * (100000 : Int64)) + (61001 : Int64)) + x2.toInt64) h8) fun x36 h37 => if x36 = 1 then (J34 (x7 &&& x6) h37) else (J13 0 (x7 &&& x6) h37))))) (fun J9 => zJ (fun (x38 : Int32) (h39 : zH) => J9 1 x38 h39) (fun J40 => if 98 < x1 then (J40 x3 h4) else (zcn 2 (FL_tryScript T p0 2 (((((60000 : Int64) + x1.toInt64) * (100000 : Int64)) + (60001 : Int64)) + x1.toInt64) h4) fun x42 h43 => if x42 = 1 then (J40 x3 h43) else (J9 0 x3 h43))))) (fun J5 => zJ (fun (x44 : Int32) (x45 : Int32) (h46 : zH) => J5 x44 x45 1 h46) (fun J47 => zcl (FL_about T p0 3 h) fun x49 h50 => zcl (FL_call T p0 3 0 3 0 0 h50) fun x53 h54 => zcl (FL_call T p0 3 1 3 0 0 h54) fun x57 h58 => if 98 < x49 then (J47 x53 x57 h58) else (zJ (fun (h60 : zH) => J5 x53 x57 0 h60) (fun J61 => zcn 2 (FL_tryScript T p0 1 ((70000 : Int64) + x49.toInt64) h58) fun x63 h64 => if x63 = (-9 : Int32) then (zcn 2 (FL_tryScript T p0 3 (((((70000 : Int64) + x49.toInt64) * (10000000000 : Int64)) + (5000070000 : Int64)) + x49.toInt64) h64) fun x66 h67 => if x66 = (-9 : Int32) then (if x49 = 0 then (J47 x53 x57 h67) else (zcn 2 (FL_tryScript T p0 1 ((69999 : Int64) + x49.toInt64) h67) fun x69 h70 => if x69 = 0 then (J47 x53 x57 h70) else (J61 h70))) else (J61 h67)) else (J61 h64)))))
set_option maxHeartbeats 4000000 in
set_option maxRecDepth 100000 in
theorem BL_scripts {X : zX} (CL : zCL X cL_scripts 6 RL "scripts" (some .boolean) 11 241) {hi : Nat} {h : zH} {p0 : Nat} {rv : Int32} {rh : zH} {n9 : Nat} (hf : FL_scripts (xT X) p0 h = some (rv, rh, n9)) : zW X 6 (zZ X false (some (.int rv), hi, rh)) n9 (6 * n9) false hi h 0 [(0, .ref p0)] [] := by
  have C := CL.1
  unfold FL_scripts at hf
  refine z_join (P := fun J => ∀ (x1 : Int32) (x2 : Int32) (x3 : Int32) (h4 : zH) (n9 : Nat), J x1 x2 x3 h4 = some (rv, rh, n9) → zW X 6 (zZ X false (some (.int rv), hi, rh)) n9 (6 * n9) false hi h4 98 [(0, .ref p0), (2, .int x1), (3, .int x2)] [.int x3]) hf ?_ ?_
  · intro x1 x2 x3 h4 n9 hf
    refine z_join (P := fun J => ∀ (x6 : Int32) (x7 : Int32) (h8 : zH) (n9 : Nat), J x6 x7 h8 = some (rv, rh, n9) → zW X 6 (zZ X false (some (.int rv), hi, rh)) n9 (6 * n9) false hi h8 139 [(0, .ref p0), (2, .int x1), (3, .int x2)] [.int x6, .int x7]) hf ?_ ?_
    · intro x6 x7 h8 n9 hf
      refine z_join (P := fun J => ∀ (x10 : Int32) (x11 : Int32) (h12 : zH) (n9 : Nat), J x10 x11 h12 = some (rv, rh, n9) → zW X 6 (zZ X false (some (.int rv), hi, rh)) n9 (6 * n9) false hi h12 181 [(0, .ref p0), (2, .int x1)] [.int x10, .int x11]) hf ?_ ?_
      · intro x10 x11 h12 n9 hf
        refine z_join (P := fun J => ∀ (x14 : Int32) (x15 : Int32) (h16 : zH) (n9 : Nat), J x14 x15 h16 = some (rv, rh, n9) → zW X 6 (zZ X false (some (.int rv), hi, rh)) n9 (6 * n9) false hi h16 204 [(0, .ref p0), (2, .int x1), (4, .int x14)] [.int x15]) hf ?_ ?_
        · intro x14 x15 h16 n9 hf
          refine z_join (P := fun J => ∀ (x18 : Int32) (h19 : zH) (n9 : Nat), J x18 h19 = some (rv, rh, n9) → zW X 6 (zZ X false (some (.int rv), hi, rh)) n9 (6 * n9) false hi h19 279 [] [.int x18]) hf ?_ ?_
          · intro x18 h19 n9 hf
            refine z_ite hf (fun c hf => ?_) (fun c hf => nomatch hf)
            exact z_zreturn C dL_scripts_279 c (by cases hf; rfl)
          · intro J20 kJ20 hf
            refine z_join (P := fun J => ∀ (h21 : zH) (n9 : Nat), J h21 = some (rv, rh, n9) → zW X 6 (zZ X false (some (.int rv), hi, rh)) n9 (6 * n9) false hi h21 278 [] []) hf ?_ ?_
            · intro h21 n9 hf
              refine z_iconst C (v := 0) dL_scripts_278 (by decide) ?_
              exact kJ20 _ _ _ hf
            · intro J22 kJ22 hf
              refine z_istore C dL_scripts_204 (by decide) (lv' := [(5, .int x15), (0, .ref p0), (2, .int x1), (4, .int x14)]) rfl ?_
              refine z_iload C dL_scripts_206 3 rfl ?_
              refine z_if_eq (tgt := 278) C dL_scripts_208 (by decide) hf (fun hf => ?_) (fun hf => ?_)
              · refine z_sub [] rfl ?_
                exact kJ22 _ _ hf
              · refine z_join (P := fun J => ∀ (h23 : zH) (n9 : Nat), J h23 = some (rv, rh, n9) → zW X 6 (zZ X false (some (.int rv), hi, rh)) n9 (6 * n9) false hi h23 274 [] []) hf ?_ ?_
                · intro h23 n9 hf
                  refine z_iconst C (v := 1) dL_scripts_274 (by decide) ?_
                  refine z_goto (tgt := 279) C dL_scripts_275 (by decide) ?_
                  exact kJ20 _ _ _ hf
                · intro J24 kJ24 hf
                  refine z_iload_n C dL_scripts_211 2 rfl rfl ?_
                  refine z_if_eq (tgt := 274) C dL_scripts_212 (by decide) hf (fun hf => ?_) (fun hf => ?_)
                  · refine z_sub [] rfl ?_
                    exact kJ24 _ _ hf
                  · refine z_iload_n C dL_scripts_215 2 rfl rfl ?_
                    refine z_bipush C (v := 10) dL_scripts_216 (by decide) ?_
                    refine z_icmp_gt (tgt := 274) C dL_scripts_218 (by decide) hf (fun hf => ?_) (fun hf => ?_)
                    · refine z_sub [] rfl ?_
                      exact kJ24 _ _ hf
                    · refine z_iload C dL_scripts_221 0 rfl ?_
                      refine z_bipush C (v := 98) dL_scripts_223 (by decide) ?_
                      refine z_icmp_gt (tgt := 274) C dL_scripts_225 (by decide) hf (fun hf => ?_) (fun hf => ?_)
                      · refine z_sub [] rfl ?_
                        exact kJ24 _ _ hf
                      · refine z_aload_n C dL_scripts_228 1 rfl rfl ?_
                        refine z_iconst C (v := 2) dL_scripts_229 (by decide) ?_
                        refine z_ldc2 C (v := 80000) mw_966 dL_scripts_230 ?_
                        refine z_ldc2 C (v := 100) mw_967 dL_scripts_233 ?_
                        refine z_iload_n C dL_scripts_236 2 rfl rfl ?_
                        refine z_iconst C (v := 1) dL_scripts_237 (by decide) ?_
                        refine z_isub C dL_scripts_238 ?_
                        refine z_i2l C dL_scripts_239 ?_
                        refine z_lmul C dL_scripts_240 ?_
                        refine z_ladd C dL_scripts_241 ?_
                        refine z_iload C dL_scripts_242 0 rfl ?_
                        refine z_i2l C dL_scripts_244 ?_
                        refine z_ladd C dL_scripts_245 ?_
                        refine z_ldc2 C (v := 100000) mw_962 dL_scripts_246 ?_
                        refine z_lmul C dL_scripts_249 ?_
                        refine z_ldc2 C (v := 80001) mw_968 dL_scripts_250 ?_
                        refine z_ladd C dL_scripts_253 ?_
                        refine z_ldc2 C (v := 100) mw_967 dL_scripts_254 ?_
                        refine z_iload_n C dL_scripts_257 2 rfl rfl ?_
                        refine z_iconst C (v := 1) dL_scripts_258 (by decide) ?_
                        refine z_isub C dL_scripts_259 ?_
                        refine z_i2l C dL_scripts_260 ?_
                        refine z_lmul C dL_scripts_261 ?_
                        refine z_ladd C dL_scripts_262 ?_
                        refine z_iload C dL_scripts_263 0 rfl ?_
                        refine z_i2l C dL_scripts_265 ?_
                        refine z_ladd C dL_scripts_266 ?_
                        obtain ⟨x26, h27, n9, g25, hf, e9⟩ := zcnE hf
                        refine z_callLW (kc' := n9) (ks' := 6 * n9) CL (ML_tryScript (xl X) CL.2.2.2 (xD X) (xT X) (xlo X) hi g25) cw_L_198 ys_L_tryScript dL_scripts_267 rfl (by decide) ⟨by show 2 + _ = _; omega, by show 12 + _ = _; omega⟩ (Nat.le_of_ble_eq_true rfl) (st := []) rfl ?_
                        refine z_iconst C (v := 1) dL_scripts_270 (by decide) ?_
                        refine z_icmp_ne (tgt := 278) C dL_scripts_271 (by decide) hf (fun hf => ?_) (fun hf => ?_)
                        · refine z_sub [] rfl ?_
                          exact kJ22 _ _ hf
                        · refine z_sub [] rfl ?_
                          exact kJ24 _ _ hf
        · intro J17 kJ17 hf
          refine z_iand C dL_scripts_181 ?_
          refine z_istore C dL_scripts_182 (by decide) (lv' := [(4, .int (x11 &&& x10)), (0, .ref p0), (2, .int x1)]) rfl ?_
          refine z_iload_n C dL_scripts_184 2 rfl rfl ?_
          refine z_if_ne (tgt := 192) C dL_scripts_185 (by decide) hf (fun hf => ?_) (fun hf => ?_)
          · refine z_aload_n C dL_scripts_192 1 rfl rfl ?_
            refine z_bipush C (v := 6) dL_scripts_193 (by decide) ?_
            refine z_iconst C (v := 0) dL_scripts_195 (by decide) ?_
            refine z_iload_n C dL_scripts_196 2 rfl rfl ?_
            refine z_iconst C (v := 1) dL_scripts_197 (by decide) ?_
            refine z_isub C dL_scripts_198 ?_
            refine z_iconst C (v := 0) dL_scripts_199 (by decide) ?_
            refine z_iconst C (v := 0) dL_scripts_200 (by decide) ?_
            obtain ⟨x29, h30, m31, n9, g28, hf, e9⟩ := zclE hf
            refine z_callL (kc' := n9) (ks' := 6 * n9) CL (ML_call (xl X) CL.2.2.2 (xD X) (xT X) (xlo X) hi g28) cw_L_174 ys_L_call dL_scripts_201 rfl ⟨Nat.le_of_ble_eq_true rfl, Nat.le_of_ble_eq_true rfl⟩ ⟨by show m31 + _ = _; omega, by show 6 * m31 + _ = _; omega⟩ (Nat.le_of_ble_eq_true rfl) (st := []) rfl ?_
            refine z_sub [1, 2, 0] rfl ?_
            exact kJ17 _ _ _ _ hf
          · refine z_iconst C (v := 0) dL_scripts_188 (by decide) ?_
            refine z_goto (tgt := 204) C dL_scripts_189 (by decide) ?_
            refine z_sub [1, 2, 0] rfl ?_
            exact kJ17 _ _ _ _ hf
      · intro J13 kJ13 hf
        refine z_join (P := fun J => ∀ (x32 : Int32) (h33 : zH) (n9 : Nat), J x32 h33 = some (rv, rh, n9) → zW X 6 (zZ X false (some (.int rv), hi, rh)) n9 (6 * n9) false hi h33 176 [(0, .ref p0), (2, .int x1)] [.int x32]) hf ?_ ?_
        · intro x32 h33 n9 hf
          refine z_iconst C (v := 1) dL_scripts_176 (by decide) ?_
          refine z_goto (tgt := 181) C dL_scripts_177 (by decide) ?_
          exact kJ13 _ _ _ _ hf
        · intro J34 kJ34 hf
          refine z_iand C dL_scripts_139 ?_
          refine z_istore C dL_scripts_140 (by decide) (lv' := [(4, .int (x7 &&& x6)), (0, .ref p0), (2, .int x1), (3, .int x2)]) rfl ?_
          refine z_iload C dL_scripts_142 0 rfl ?_
          refine z_iload_n C dL_scripts_144 3 rfl rfl ?_
          refine z_bipush C (v := 98) dL_scripts_145 (by decide) ?_
          refine z_icmp_gt (tgt := 176) C dL_scripts_147 (by decide) hf (fun hf => ?_) (fun hf => ?_)
          · refine z_sub [1, 2] rfl ?_
            exact kJ34 _ _ _ hf
          · refine z_aload_n C dL_scripts_150 1 rfl rfl ?_
            refine z_iconst C (v := 2) dL_scripts_151 (by decide) ?_
            refine z_ldc2 C (v := 61000) mw_964 dL_scripts_152 ?_
            refine z_iload_n C dL_scripts_155 3 rfl rfl ?_
            refine z_i2l C dL_scripts_156 ?_
            refine z_ladd C dL_scripts_157 ?_
            refine z_ldc2 C (v := 100000) mw_962 dL_scripts_158 ?_
            refine z_lmul C dL_scripts_161 ?_
            refine z_ldc2 C (v := 61001) mw_965 dL_scripts_162 ?_
            refine z_ladd C dL_scripts_165 ?_
            refine z_iload_n C dL_scripts_166 3 rfl rfl ?_
            refine z_i2l C dL_scripts_167 ?_
            refine z_ladd C dL_scripts_168 ?_
            obtain ⟨x36, h37, n9, g35, hf, e9⟩ := zcnE hf
            refine z_callLW (kc' := n9) (ks' := 6 * n9) CL (ML_tryScript (xl X) CL.2.2.2 (xD X) (xT X) (xlo X) hi g35) cw_L_198 ys_L_tryScript dL_scripts_169 rfl (by decide) ⟨by show 2 + _ = _; omega, by show 12 + _ = _; omega⟩ (Nat.le_of_ble_eq_true rfl) (st := [.int (x7 &&& x6)]) rfl ?_
            refine z_iconst C (v := 1) dL_scripts_172 (by decide) ?_
            refine z_icmp_ne (tgt := 180) C dL_scripts_173 (by decide) hf (fun hf => ?_) (fun hf => ?_)
            · refine z_iconst C (v := 0) dL_scripts_180 (by decide) ?_
              refine z_sub [1, 2] rfl ?_
              exact kJ13 _ _ _ _ hf
            · refine z_sub [1, 2] rfl ?_
              exact kJ34 _ _ _ hf
    · intro J9 kJ9 hf
      refine z_join (P := fun J => ∀ (x38 : Int32) (h39 : zH) (n9 : Nat), J x38 h39 = some (rv, rh, n9) → zW X 6 (zZ X false (some (.int rv), hi, rh)) n9 (6 * n9) false hi h39 134 [(0, .ref p0), (2, .int x1), (3, .int x2)] [.int x38]) hf ?_ ?_
      · intro x38 h39 n9 hf
        refine z_iconst C (v := 1) dL_scripts_134 (by decide) ?_
        refine z_goto (tgt := 139) C dL_scripts_135 (by decide) ?_
        exact kJ9 _ _ _ _ hf
      · intro J40 kJ40 hf
        refine z_istore C dL_scripts_98 (by decide) (lv' := [(4, .int x3), (0, .ref p0), (2, .int x1), (3, .int x2)]) rfl ?_
        refine z_iload C dL_scripts_100 0 rfl ?_
        refine z_iload_n C dL_scripts_102 2 rfl rfl ?_
        refine z_bipush C (v := 98) dL_scripts_103 (by decide) ?_
        refine z_icmp_gt (tgt := 134) C dL_scripts_105 (by decide) hf (fun hf => ?_) (fun hf => ?_)
        · refine z_sub [1, 2, 3] rfl ?_
          exact kJ40 _ _ _ hf
        · refine z_aload_n C dL_scripts_108 1 rfl rfl ?_
          refine z_iconst C (v := 2) dL_scripts_109 (by decide) ?_
          refine z_ldc2 C (v := 60000) mw_961 dL_scripts_110 ?_
          refine z_iload_n C dL_scripts_113 2 rfl rfl ?_
          refine z_i2l C dL_scripts_114 ?_
          refine z_ladd C dL_scripts_115 ?_
          refine z_ldc2 C (v := 100000) mw_962 dL_scripts_116 ?_
          refine z_lmul C dL_scripts_119 ?_
          refine z_ldc2 C (v := 60001) mw_963 dL_scripts_120 ?_
          refine z_ladd C dL_scripts_123 ?_
          refine z_iload_n C dL_scripts_124 2 rfl rfl ?_
          refine z_i2l C dL_scripts_125 ?_
          refine z_ladd C dL_scripts_126 ?_
          obtain ⟨x42, h43, n9, g41, hf, e9⟩ := zcnE hf
          refine z_callLW (kc' := n9) (ks' := 6 * n9) CL (ML_tryScript (xl X) CL.2.2.2 (xD X) (xT X) (xlo X) hi g41) cw_L_198 ys_L_tryScript dL_scripts_127 rfl (by decide) ⟨by show 2 + _ = _; omega, by show 12 + _ = _; omega⟩ (Nat.le_of_ble_eq_true rfl) (st := [.int x3]) rfl ?_
          refine z_iconst C (v := 1) dL_scripts_130 (by decide) ?_
          refine z_icmp_ne (tgt := 138) C dL_scripts_131 (by decide) hf (fun hf => ?_) (fun hf => ?_)
          · refine z_iconst C (v := 0) dL_scripts_138 (by decide) ?_
            refine z_sub [1, 2, 3] rfl ?_
            exact kJ9 _ _ _ _ hf
          · refine z_sub [1, 2, 3] rfl ?_
            exact kJ40 _ _ _ hf
  · intro J5 kJ5 hf
    refine z_join (P := fun J => ∀ (x44 : Int32) (x45 : Int32) (h46 : zH) (n9 : Nat), J x44 x45 h46 = some (rv, rh, n9) → zW X 6 (zZ X false (some (.int rv), hi, rh)) n9 (6 * n9) false hi h46 93 [(0, .ref p0), (2, .int x44), (3, .int x45)] []) hf ?_ ?_
    · intro x44 x45 h46 n9 hf
      refine z_iconst C (v := 1) dL_scripts_93 (by decide) ?_
      refine z_goto (tgt := 98) C dL_scripts_94 (by decide) ?_
      exact kJ5 _ _ _ _ _ hf
    · intro J47 kJ47 hf
      refine z_aload_n C dL_scripts_0 0 rfl rfl ?_
      refine z_iconst C (v := 3) dL_scripts_1 (by decide) ?_
      obtain ⟨x49, h50, m51, n9, g48, hf, e9⟩ := zclE hf
      refine z_callL (kc' := n9) (ks' := 6 * n9) CL (ML_about (xl X) CL.2.2.2 (xD X) (xT X) (xlo X) hi g48) cw_L_180 ys_L_about dL_scripts_2 rfl ⟨Nat.le_of_ble_eq_true rfl, Nat.le_of_ble_eq_true rfl⟩ ⟨by show m51 + _ = _; omega, by show 6 * m51 + _ = _; omega⟩ (Nat.le_of_ble_eq_true rfl) (st := []) rfl ?_
      refine z_istore_n C dL_scripts_5 rfl (by decide) (lv' := [(1, .int x49), (0, .ref p0)]) rfl ?_
      refine z_aload_n C dL_scripts_6 1 rfl rfl ?_
      refine z_iconst C (v := 3) dL_scripts_7 (by decide) ?_
      refine z_iconst C (v := 0) dL_scripts_8 (by decide) ?_
      refine z_iconst C (v := 3) dL_scripts_9 (by decide) ?_
      refine z_iconst C (v := 0) dL_scripts_10 (by decide) ?_
      refine z_iconst C (v := 0) dL_scripts_11 (by decide) ?_
      obtain ⟨x53, h54, m55, n9, g52, hf, e9⟩ := zclE hf
      refine z_callL (kc' := n9) (ks' := 6 * n9) CL (ML_call (xl X) CL.2.2.2 (xD X) (xT X) (xlo X) hi g52) cw_L_174 ys_L_call dL_scripts_12 rfl ⟨Nat.le_of_ble_eq_true rfl, Nat.le_of_ble_eq_true rfl⟩ ⟨by show m55 + _ = _; omega, by show 6 * m55 + _ = _; omega⟩ (Nat.le_of_ble_eq_true rfl) (st := []) rfl ?_
      refine z_istore_n C dL_scripts_15 rfl (by decide) (lv' := [(2, .int x53), (1, .int x49), (0, .ref p0)]) rfl ?_
      refine z_aload_n C dL_scripts_16 2 rfl rfl ?_
      refine z_iconst C (v := 3) dL_scripts_17 (by decide) ?_
      refine z_iconst C (v := 1) dL_scripts_18 (by decide) ?_
      refine z_iconst C (v := 3) dL_scripts_19 (by decide) ?_
      refine z_iconst C (v := 0) dL_scripts_20 (by decide) ?_
      refine z_iconst C (v := 0) dL_scripts_21 (by decide) ?_
      obtain ⟨x57, h58, m59, n9, g56, hf, e9⟩ := zclE hf
      refine z_callL (kc' := n9) (ks' := 6 * n9) CL (ML_call (xl X) CL.2.2.2 (xD X) (xT X) (xlo X) hi g56) cw_L_174 ys_L_call dL_scripts_22 rfl ⟨Nat.le_of_ble_eq_true rfl, Nat.le_of_ble_eq_true rfl⟩ ⟨by show m59 + _ = _; omega, by show 6 * m59 + _ = _; omega⟩ (Nat.le_of_ble_eq_true rfl) (st := []) rfl ?_
      refine z_istore_n C dL_scripts_25 rfl (by decide) (lv' := [(3, .int x57), (2, .int x53), (1, .int x49), (0, .ref p0)]) rfl ?_
      refine z_iload_n C dL_scripts_26 2 rfl rfl ?_
      refine z_bipush C (v := 98) dL_scripts_27 (by decide) ?_
      refine z_icmp_gt (tgt := 93) C dL_scripts_29 (by decide) hf (fun hf => ?_) (fun hf => ?_)
      · refine z_sub [3, 1, 0] rfl ?_
        exact kJ47 _ _ _ _ hf
      · refine z_join (P := fun J => ∀ (h60 : zH) (n9 : Nat), J h60 = some (rv, rh, n9) → zW X 6 (zZ X false (some (.int rv), hi, rh)) n9 (6 * n9) false hi h60 97 [(0, .ref p0), (2, .int x53), (3, .int x57)] []) hf ?_ ?_
        · intro h60 n9 hf
          refine z_iconst C (v := 0) dL_scripts_97 (by decide) ?_
          exact kJ5 _ _ _ _ _ hf
        · intro J61 kJ61 hf
          refine z_aload_n C dL_scripts_32 3 rfl rfl ?_
          refine z_iconst C (v := 1) dL_scripts_33 (by decide) ?_
          refine z_ldc2 C (v := 70000) mw_919 dL_scripts_34 ?_
          refine z_iload_n C dL_scripts_37 2 rfl rfl ?_
          refine z_i2l C dL_scripts_38 ?_
          refine z_ladd C dL_scripts_39 ?_
          obtain ⟨x63, h64, n9, g62, hf, e9⟩ := zcnE hf
          refine z_callLW (kc' := n9) (ks' := 6 * n9) CL (ML_tryScript (xl X) CL.2.2.2 (xD X) (xT X) (xlo X) hi g62) cw_L_198 ys_L_tryScript dL_scripts_40 rfl (by decide) ⟨by show 2 + _ = _; omega, by show 12 + _ = _; omega⟩ (Nat.le_of_ble_eq_true rfl) (st := []) rfl ?_
          refine z_bipush C (v := (-9 : Int32)) dL_scripts_43 (by decide) ?_
          refine z_icmp_ne (tgt := 97) C dL_scripts_45 (by decide) hf (fun hf => ?_) (fun hf => ?_)
          · refine z_sub [3, 1, 0] rfl ?_
            exact kJ61 _ _ hf
          · refine z_aload_n C dL_scripts_48 3 rfl rfl ?_
            refine z_iconst C (v := 3) dL_scripts_49 (by decide) ?_
            refine z_ldc2 C (v := 70000) mw_919 dL_scripts_50 ?_
            refine z_iload_n C dL_scripts_53 2 rfl rfl ?_
            refine z_i2l C dL_scripts_54 ?_
            refine z_ladd C dL_scripts_55 ?_
            refine z_ldc2 C (v := 10000000000) mw_958 dL_scripts_56 ?_
            refine z_lmul C dL_scripts_59 ?_
            refine z_ldc2 C (v := 5000070000) mw_959 dL_scripts_60 ?_
            refine z_ladd C dL_scripts_63 ?_
            refine z_iload_n C dL_scripts_64 2 rfl rfl ?_
            refine z_i2l C dL_scripts_65 ?_
            refine z_ladd C dL_scripts_66 ?_
            obtain ⟨x66, h67, n9, g65, hf, e9⟩ := zcnE hf
            refine z_callLW (kc' := n9) (ks' := 6 * n9) CL (ML_tryScript (xl X) CL.2.2.2 (xD X) (xT X) (xlo X) hi g65) cw_L_198 ys_L_tryScript dL_scripts_67 rfl (by decide) ⟨by show 2 + _ = _; omega, by show 12 + _ = _; omega⟩ (Nat.le_of_ble_eq_true rfl) (st := []) rfl ?_
            refine z_bipush C (v := (-9 : Int32)) dL_scripts_70 (by decide) ?_
            refine z_icmp_ne (tgt := 97) C dL_scripts_72 (by decide) hf (fun hf => ?_) (fun hf => ?_)
            · refine z_sub [3, 1, 0] rfl ?_
              exact kJ61 _ _ hf
            · refine z_iload_n C dL_scripts_75 2 rfl rfl ?_
              refine z_if_eq (tgt := 93) C dL_scripts_76 (by decide) hf (fun hf => ?_) (fun hf => ?_)
              · refine z_sub [3, 1, 0] rfl ?_
                exact kJ47 _ _ _ _ hf
              · refine z_aload_n C dL_scripts_79 3 rfl rfl ?_
                refine z_iconst C (v := 1) dL_scripts_80 (by decide) ?_
                refine z_ldc2 C (v := 69999) mw_960 dL_scripts_81 ?_
                refine z_iload_n C dL_scripts_84 2 rfl rfl ?_
                refine z_i2l C dL_scripts_85 ?_
                refine z_ladd C dL_scripts_86 ?_
                obtain ⟨x69, h70, n9, g68, hf, e9⟩ := zcnE hf
                refine z_callLW (kc' := n9) (ks' := 6 * n9) CL (ML_tryScript (xl X) CL.2.2.2 (xD X) (xT X) (xlo X) hi g68) cw_L_198 ys_L_tryScript dL_scripts_87 rfl (by decide) ⟨by show 2 + _ = _; omega, by show 12 + _ = _; omega⟩ (Nat.le_of_ble_eq_true rfl) (st := []) rfl ?_
                refine z_if_ne (tgt := 97) C dL_scripts_90 (by decide) hf (fun hf => ?_) (fun hf => ?_)
                · refine z_sub [3, 1, 0] rfl ?_
                  exact kJ61 _ _ hf
                · refine z_sub [3, 1, 0] rfl ?_
                  exact kJ47 _ _ _ _ hf
theorem ML_scripts (l : Launch) (hl9 : l.stackTraces = false) (D : va_G) (T : zT) (lo hi : Nat) {h : zH} {p0 : Nat} {rv : Int32} {rh : zH} {n9 : Nat} (hf : FL_scripts T p0 h = some (rv, rh, n9)) : zMW l yL_scripts (.code yL_scripts cL_scripts 6 (some .boolean) :: TW) ({ frames := 11, cells := n9, slots := 6 * n9, locals := 241 } : Room) D T lo [.ref p0] hi h (some (.int rv), hi, rh) :=
  z_enterL hl9 (own := RL) (nm := "scripts") (lv := [(0, .ref p0)]) (by decide +kernel) rfl rfl (Nat.le_of_ble_eq_true rfl) rfl (fun _ _ _ _ _ _ _ _ C => BL_scripts C hf)
