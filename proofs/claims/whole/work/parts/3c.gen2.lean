theorem mw_37 : (Jvm.Cond.selects "CrossedSheetModel" ({ cls := "CrossedSheetModel", name := "countOf", desc := "(I)I" } : Jvm.MethodName) ({ cls := "CrossedSheetModel", name := "countOf", desc := "(I)I" } : Jvm.MethodName)) ∈ TW := TWm 37 (by decide +kernel) (by decide +kernel)
theorem mw_38 : (Jvm.Cond.selects "CrossedSheetModel" ({ cls := "CrossedSheetModel", name := "layNow", desc := "(I)I" } : Jvm.MethodName) ({ cls := "CrossedSheetModel", name := "layNow", desc := "(I)I" } : Jvm.MethodName)) ∈ TW := TWm 38 (by decide +kernel) (by decide +kernel)
theorem mw_41 : (Jvm.Cond.selects "CrossedSheetModel" ({ cls := "CrossedSheetModel", name := "isWord", desc := "(II)Z" } : Jvm.MethodName) ({ cls := "CrossedSheetModel", name := "isWord", desc := "(II)Z" } : Jvm.MethodName)) ∈ TW := TWm 41 (by decide +kernel) (by decide +kernel)
theorem mw_42 : (Jvm.Cond.selects "CrossedSheetModel" ({ cls := "CrossedSheetModel", name := "note", desc := "()V" } : Jvm.MethodName) ({ cls := "CrossedSheetModel", name := "note", desc := "()V" } : Jvm.MethodName)) ∈ TW := TWm 42 (by decide +kernel) (by decide +kernel)
theorem mw_43 : (Jvm.Cond.selects "CrossedSheetModel" ({ cls := "CrossedSheetModel", name := "turnOn", desc := "([I)V" } : Jvm.MethodName) ({ cls := "CrossedSheetModel", name := "turnOn", desc := "([I)V" } : Jvm.MethodName)) ∈ TW := TWm 43 (by decide +kernel) (by decide +kernel)
theorem mw_988 : (Jvm.Cond.fieldLink "CrossedSheetModel" (25 : Nat) "CrossedSheetModel" "diary" "[I") ∈ TW := TWm 988 (by decide +kernel) (by decide +kernel)
theorem mw_1131 : (Jvm.Cond.methodLink "CrossedSheetModel" (175 : Nat) ({ cls := "CrossedSheetModel", name := "doubts", desc := "([I)I" } : Jvm.MethodName)) ∈ TW := TWm 1131 (by decide +kernel) (by decide +kernel)
theorem mw_1132 : (Jvm.Cond.static ({ cls := "CrossedSheetModel", name := "doubts", desc := "([I)I" } : Jvm.MethodName)) ∈ TW := TWm 1132 (by decide +kernel) (by decide +kernel)
theorem mw_1133 : (Jvm.Cond.code ({ cls := "CrossedSheetModel", name := "doubts", desc := "([I)I" } : Jvm.MethodName) prog_9_method_17_code (1 : Nat) (Option.some Jvm.ClassFile.FieldType.int)) ∈ TW := TWm 1133 (by decide +kernel) (by decide +kernel)
theorem mw_1146 : (Jvm.Cond.methodLink "CrossedSheetModel" (178 : Nat) ({ cls := "CrossedSheetModel", name := "countOf", desc := "(I)I" } : Jvm.MethodName)) ∈ TW := TWm 1146 (by decide +kernel) (by decide +kernel)
theorem mw_1148 : (Jvm.Cond.instanceMethod ({ cls := "CrossedSheetModel", name := "countOf", desc := "(I)I" } : Jvm.MethodName)) ∈ TW := TWm 1148 (by decide +kernel) (by decide +kernel)
theorem mw_1149 : (Jvm.Cond.code ({ cls := "CrossedSheetModel", name := "countOf", desc := "(I)I" } : Jvm.MethodName) prog_9_method_44_code (8 : Nat) (Option.some Jvm.ClassFile.FieldType.int)) ∈ TW := TWm 1149 (by decide +kernel) (by decide +kernel)
theorem mw_1157 : (Jvm.Cond.methodLink "CrossedSheetModel" (182 : Nat) ({ cls := "CrossedSheetModel", name := "isLetter", desc := "(I)Z" } : Jvm.MethodName)) ∈ TW := TWm 1157 (by decide +kernel) (by decide +kernel)
theorem mw_1158 : (Jvm.Cond.static ({ cls := "CrossedSheetModel", name := "isLetter", desc := "(I)Z" } : Jvm.MethodName)) ∈ TW := TWm 1158 (by decide +kernel) (by decide +kernel)
theorem mw_1159 : (Jvm.Cond.code ({ cls := "CrossedSheetModel", name := "isLetter", desc := "(I)Z" } : Jvm.MethodName) prog_9_method_11_code (1 : Nat) (Option.some Jvm.ClassFile.FieldType.boolean)) ∈ TW := TWm 1159 (by decide +kernel) (by decide +kernel)
theorem mw_1160 : (Jvm.Cond.constantLong "CrossedSheetModel" (185 : Nat) (4 : Int64)) ∈ TW := TWm 1160 (by decide +kernel) (by decide +kernel)
theorem mw_1161 : (Jvm.Cond.methodLink "CrossedSheetModel" (187 : Nat) ({ cls := "CrossedSheetModel", name := "layNow", desc := "(I)I" } : Jvm.MethodName)) ∈ TW := TWm 1161 (by decide +kernel) (by decide +kernel)
theorem mw_1163 : (Jvm.Cond.instanceMethod ({ cls := "CrossedSheetModel", name := "layNow", desc := "(I)I" } : Jvm.MethodName)) ∈ TW := TWm 1163 (by decide +kernel) (by decide +kernel)
theorem mw_1164 : (Jvm.Cond.code ({ cls := "CrossedSheetModel", name := "layNow", desc := "(I)I" } : Jvm.MethodName) prog_9_method_22_code (2 : Nat) (Option.some Jvm.ClassFile.FieldType.int)) ∈ TW := TWm 1164 (by decide +kernel) (by decide +kernel)
theorem mw_1187 : (Jvm.Cond.methodLink "CrossedSheetModel" (190 : Nat) ({ cls := "CrossedSheetModel", name := "isMark", desc := "([IIII)Z" } : Jvm.MethodName)) ∈ TW := TWm 1187 (by decide +kernel) (by decide +kernel)
theorem mw_1188 : (Jvm.Cond.static ({ cls := "CrossedSheetModel", name := "isMark", desc := "([IIII)Z" } : Jvm.MethodName)) ∈ TW := TWm 1188 (by decide +kernel) (by decide +kernel)
theorem mw_1189 : (Jvm.Cond.code ({ cls := "CrossedSheetModel", name := "isMark", desc := "([IIII)Z" } : Jvm.MethodName) prog_9_method_10_code (4 : Nat) (Option.some Jvm.ClassFile.FieldType.boolean)) ∈ TW := TWm 1189 (by decide +kernel) (by decide +kernel)
theorem mw_1190 : (Jvm.Cond.constantLong "CrossedSheetModel" (194 : Nat) (7 : Int64)) ∈ TW := TWm 1190 (by decide +kernel) (by decide +kernel)
theorem mw_1195 : (Jvm.Cond.methodLink "CrossedSheetModel" (196 : Nat) ({ cls := "CrossedSheetModel", name := "isWord", desc := "(II)Z" } : Jvm.MethodName)) ∈ TW := TWm 1195 (by decide +kernel) (by decide +kernel)
theorem mw_1197 : (Jvm.Cond.instanceMethod ({ cls := "CrossedSheetModel", name := "isWord", desc := "(II)Z" } : Jvm.MethodName)) ∈ TW := TWm 1197 (by decide +kernel) (by decide +kernel)
theorem mw_1198 : (Jvm.Cond.code ({ cls := "CrossedSheetModel", name := "isWord", desc := "(II)Z" } : Jvm.MethodName) prog_9_method_49_code (3 : Nat) (Option.some Jvm.ClassFile.FieldType.boolean)) ∈ TW := TWm 1198 (by decide +kernel) (by decide +kernel)
theorem mw_1211 : (Jvm.Cond.constantLong "CrossedSheetModel" (200 : Nat) (26 : Int64)) ∈ TW := TWm 1211 (by decide +kernel) (by decide +kernel)
theorem mw_1212 : (Jvm.Cond.constantLong "CrossedSheetModel" (202 : Nat) (3 : Int64)) ∈ TW := TWm 1212 (by decide +kernel) (by decide +kernel)
theorem mw_1213 : (Jvm.Cond.constantLong "CrossedSheetModel" (204 : Nat) (8 : Int64)) ∈ TW := TWm 1213 (by decide +kernel) (by decide +kernel)
theorem mw_1214 : (Jvm.Cond.methodLink "CrossedSheetModel" (206 : Nat) ({ cls := "CrossedSheetModel", name := "note", desc := "()V" } : Jvm.MethodName)) ∈ TW := TWm 1214 (by decide +kernel) (by decide +kernel)
theorem mw_1216 : (Jvm.Cond.instanceMethod ({ cls := "CrossedSheetModel", name := "note", desc := "()V" } : Jvm.MethodName)) ∈ TW := TWm 1216 (by decide +kernel) (by decide +kernel)
theorem mw_1217 : (Jvm.Cond.code ({ cls := "CrossedSheetModel", name := "note", desc := "()V" } : Jvm.MethodName) prog_9_method_53_code (2 : Nat) (Option.none : Option Jvm.ClassFile.FieldType)) ∈ TW := TWm 1217 (by decide +kernel) (by decide +kernel)
theorem mw_1222 : (Jvm.Cond.methodLink "CrossedSheetModel" (209 : Nat) ({ cls := "CrossedSheetModel", name := "eraseOn", desc := "([III)I" } : Jvm.MethodName)) ∈ TW := TWm 1222 (by decide +kernel) (by decide +kernel)
theorem mw_1223 : (Jvm.Cond.static ({ cls := "CrossedSheetModel", name := "eraseOn", desc := "([III)I" } : Jvm.MethodName)) ∈ TW := TWm 1223 (by decide +kernel) (by decide +kernel)
theorem mw_1224 : (Jvm.Cond.code ({ cls := "CrossedSheetModel", name := "eraseOn", desc := "([III)I" } : Jvm.MethodName) prog_9_method_25_code (5 : Nat) (Option.some Jvm.ClassFile.FieldType.int)) ∈ TW := TWm 1224 (by decide +kernel) (by decide +kernel)
theorem mw_1229 : (Jvm.Cond.constantLong "CrossedSheetModel" (212 : Nat) (2 : Int64)) ∈ TW := TWm 1229 (by decide +kernel) (by decide +kernel)
theorem mw_1230 : (Jvm.Cond.methodLink "CrossedSheetModel" (214 : Nat) ({ cls := "CrossedSheetModel", name := "canDecide", desc := "([IIII)Z" } : Jvm.MethodName)) ∈ TW := TWm 1230 (by decide +kernel) (by decide +kernel)
theorem mw_1231 : (Jvm.Cond.static ({ cls := "CrossedSheetModel", name := "canDecide", desc := "([IIII)Z" } : Jvm.MethodName)) ∈ TW := TWm 1231 (by decide +kernel) (by decide +kernel)
theorem mw_1232 : (Jvm.Cond.code ({ cls := "CrossedSheetModel", name := "canDecide", desc := "([IIII)Z" } : Jvm.MethodName) prog_9_method_26_code (4 : Nat) (Option.some Jvm.ClassFile.FieldType.boolean)) ∈ TW := TWm 1232 (by decide +kernel) (by decide +kernel)
theorem mw_1233 : (Jvm.Cond.methodLink "CrossedSheetModel" (217 : Nat) ({ cls := "CrossedSheetModel", name := "decideOn", desc := "([IIII)V" } : Jvm.MethodName)) ∈ TW := TWm 1233 (by decide +kernel) (by decide +kernel)
theorem mw_1234 : (Jvm.Cond.static ({ cls := "CrossedSheetModel", name := "decideOn", desc := "([IIII)V" } : Jvm.MethodName)) ∈ TW := TWm 1234 (by decide +kernel) (by decide +kernel)
theorem mw_1235 : (Jvm.Cond.code ({ cls := "CrossedSheetModel", name := "decideOn", desc := "([IIII)V" } : Jvm.MethodName) prog_9_method_27_code (4 : Nat) (Option.none : Option Jvm.ClassFile.FieldType)) ∈ TW := TWm 1235 (by decide +kernel) (by decide +kernel)
theorem mw_1240 : (Jvm.Cond.methodLink "CrossedSheetModel" (221 : Nat) ({ cls := "CrossedSheetModel", name := "isPen", desc := "(III)Z" } : Jvm.MethodName)) ∈ TW := TWm 1240 (by decide +kernel) (by decide +kernel)
theorem mw_1241 : (Jvm.Cond.static ({ cls := "CrossedSheetModel", name := "isPen", desc := "(III)Z" } : Jvm.MethodName)) ∈ TW := TWm 1241 (by decide +kernel) (by decide +kernel)
theorem mw_1242 : (Jvm.Cond.code ({ cls := "CrossedSheetModel", name := "isPen", desc := "(III)Z" } : Jvm.MethodName) prog_9_method_57_code (3 : Nat) (Option.some Jvm.ClassFile.FieldType.boolean)) ∈ TW := TWm 1242 (by decide +kernel) (by decide +kernel)
theorem mw_1255 : (Jvm.Cond.methodLink "CrossedSheetModel" (224 : Nat) ({ cls := "CrossedSheetModel", name := "turnOn", desc := "([I)V" } : Jvm.MethodName)) ∈ TW := TWm 1255 (by decide +kernel) (by decide +kernel)
theorem mw_1257 : (Jvm.Cond.instanceMethod ({ cls := "CrossedSheetModel", name := "turnOn", desc := "([I)V" } : Jvm.MethodName)) ∈ TW := TWm 1257 (by decide +kernel) (by decide +kernel)
theorem mw_1258 : (Jvm.Cond.code ({ cls := "CrossedSheetModel", name := "turnOn", desc := "([I)V" } : Jvm.MethodName) prog_9_method_29_code (7 : Nat) (Option.none : Option Jvm.ClassFile.FieldType)) ∈ TW := TWm 1258 (by decide +kernel) (by decide +kernel)
theorem mw_1259 : (Jvm.Cond.methodLink "CrossedSheetModel" (228 : Nat) ({ cls := "CrossedSheetModel", name := "allWords", desc := "(LCrossedSheetModel;[I)I" } : Jvm.MethodName)) ∈ TW := TWm 1259 (by decide +kernel) (by decide +kernel)
theorem mw_1260 : (Jvm.Cond.static ({ cls := "CrossedSheetModel", name := "allWords", desc := "(LCrossedSheetModel;[I)I" } : Jvm.MethodName)) ∈ TW := TWm 1260 (by decide +kernel) (by decide +kernel)
theorem mw_1261 : (Jvm.Cond.code ({ cls := "CrossedSheetModel", name := "allWords", desc := "(LCrossedSheetModel;[I)I" } : Jvm.MethodName) prog_9_method_23_code (2 : Nat) (Option.some Jvm.ClassFile.FieldType.int)) ∈ TW := TWm 1261 (by decide +kernel) (by decide +kernel)
theorem fl_X7_25 : zF RX7 25 7 8 (.array .int) true := ⟨RX7, TX7, 19, tyX7, rfl, inTX7, by decide, mw_988, by decide +kernel, tyX7_ok, nmX7, rfl⟩
theorem ys_X7_allWords : yX7_allWords.cls ≠ "java/lang/invoke/MethodHandle" ∧ yX7_allWords.cls ≠ "java/lang/invoke/VarHandle" ∧ (parseMethodDescriptor yX7_allWords.desc).map (fun d => d.parameters.length) = some 2 := by decide +kernel
theorem ys_X7_canDecide : yX7_canDecide.cls ≠ "java/lang/invoke/MethodHandle" ∧ yX7_canDecide.cls ≠ "java/lang/invoke/VarHandle" ∧ (parseMethodDescriptor yX7_canDecide.desc).map (fun d => d.parameters.length) = some 4 := by decide +kernel
theorem yv_X7_countOf : yX7_countOf.cls = RX7 ∧ yX7_countOf.cls ≠ "java/lang/invoke/MethodHandle" ∧ yX7_countOf.cls ≠ "java/lang/invoke/VarHandle" ∧ (parseMethodDescriptor yX7_countOf.desc).map (fun d => d.parameters.length) = some 1 := by decide +kernel
theorem ys_X7_decideOn : yX7_decideOn.cls ≠ "java/lang/invoke/MethodHandle" ∧ yX7_decideOn.cls ≠ "java/lang/invoke/VarHandle" ∧ (parseMethodDescriptor yX7_decideOn.desc).map (fun d => d.parameters.length) = some 4 := by decide +kernel
theorem ys_X7_doubts : yX7_doubts.cls ≠ "java/lang/invoke/MethodHandle" ∧ yX7_doubts.cls ≠ "java/lang/invoke/VarHandle" ∧ (parseMethodDescriptor yX7_doubts.desc).map (fun d => d.parameters.length) = some 1 := by decide +kernel
theorem ys_X7_eraseOn : yX7_eraseOn.cls ≠ "java/lang/invoke/MethodHandle" ∧ yX7_eraseOn.cls ≠ "java/lang/invoke/VarHandle" ∧ (parseMethodDescriptor yX7_eraseOn.desc).map (fun d => d.parameters.length) = some 3 := by decide +kernel
theorem ys_X7_isLetter : yX7_isLetter.cls ≠ "java/lang/invoke/MethodHandle" ∧ yX7_isLetter.cls ≠ "java/lang/invoke/VarHandle" ∧ (parseMethodDescriptor yX7_isLetter.desc).map (fun d => d.parameters.length) = some 1 := by decide +kernel
theorem ys_X7_isMark : yX7_isMark.cls ≠ "java/lang/invoke/MethodHandle" ∧ yX7_isMark.cls ≠ "java/lang/invoke/VarHandle" ∧ (parseMethodDescriptor yX7_isMark.desc).map (fun d => d.parameters.length) = some 4 := by decide +kernel
theorem ys_X7_isPen : yX7_isPen.cls ≠ "java/lang/invoke/MethodHandle" ∧ yX7_isPen.cls ≠ "java/lang/invoke/VarHandle" ∧ (parseMethodDescriptor yX7_isPen.desc).map (fun d => d.parameters.length) = some 3 := by decide +kernel
theorem yv_X7_isWord : yX7_isWord.cls = RX7 ∧ yX7_isWord.cls ≠ "java/lang/invoke/MethodHandle" ∧ yX7_isWord.cls ≠ "java/lang/invoke/VarHandle" ∧ (parseMethodDescriptor yX7_isWord.desc).map (fun d => d.parameters.length) = some 2 := by decide +kernel
theorem yv_X7_layNow : yX7_layNow.cls = RX7 ∧ yX7_layNow.cls ≠ "java/lang/invoke/MethodHandle" ∧ yX7_layNow.cls ≠ "java/lang/invoke/VarHandle" ∧ (parseMethodDescriptor yX7_layNow.desc).map (fun d => d.parameters.length) = some 1 := by decide +kernel
theorem yv_X7_note : yX7_note.cls = RX7 ∧ yX7_note.cls ≠ "java/lang/invoke/MethodHandle" ∧ yX7_note.cls ≠ "java/lang/invoke/VarHandle" ∧ (parseMethodDescriptor yX7_note.desc).map (fun d => d.parameters.length) = some 0 := by decide +kernel
theorem yv_X7_turnOn : yX7_turnOn.cls = RX7 ∧ yX7_turnOn.cls ≠ "java/lang/invoke/MethodHandle" ∧ yX7_turnOn.cls ≠ "java/lang/invoke/VarHandle" ∧ (parseMethodDescriptor yX7_turnOn.desc).map (fun d => d.parameters.length) = some 1 := by decide +kernel
theorem cw_X7_175 : GoodIn TW (va_wsS RX7 175 yX7_doubts (.code yX7_doubts cX7_doubts 1 (some .int) :: TW)) := zGS mw_1131 mw_1132 mw_54 mw_1133
theorem cw_X7_178 : GoodIn TW (wsV RX7 178 RX7 yX7_countOf (.code yX7_countOf cX7_countOf 8 (some .int) :: TW)) := zGV mw_1146 mw_1148 mw_37 mw_54 mw_1149
theorem cw_X7_182 : GoodIn TW (va_wsS RX7 182 yX7_isLetter (.code yX7_isLetter cX7_isLetter 1 (some .boolean) :: TW)) := zGS mw_1157 mw_1158 mw_54 mw_1159
theorem cw_X7_187 : GoodIn TW (wsV RX7 187 RX7 yX7_layNow (.code yX7_layNow cX7_layNow 2 (some .int) :: TW)) := zGV mw_1161 mw_1163 mw_38 mw_54 mw_1164
theorem cw_X7_190 : GoodIn TW (va_wsS RX7 190 yX7_isMark (.code yX7_isMark cX7_isMark 4 (some .boolean) :: TW)) := zGS mw_1187 mw_1188 mw_54 mw_1189
theorem cw_X7_196 : GoodIn TW (wsV RX7 196 RX7 yX7_isWord (.code yX7_isWord cX7_isWord 3 (some .boolean) :: TW)) := zGV mw_1195 mw_1197 mw_41 mw_54 mw_1198
theorem cw_X7_206 : GoodIn TW (wsV RX7 206 RX7 yX7_note (.code yX7_note cX7_note 2 none :: TW)) := zGV mw_1214 mw_1216 mw_42 mw_54 mw_1217
theorem cw_X7_209 : GoodIn TW (va_wsS RX7 209 yX7_eraseOn (.code yX7_eraseOn cX7_eraseOn 5 (some .int) :: TW)) := zGS mw_1222 mw_1223 mw_54 mw_1224
theorem cw_X7_214 : GoodIn TW (va_wsS RX7 214 yX7_canDecide (.code yX7_canDecide cX7_canDecide 4 (some .boolean) :: TW)) := zGS mw_1230 mw_1231 mw_54 mw_1232
theorem cw_X7_217 : GoodIn TW (va_wsS RX7 217 yX7_decideOn (.code yX7_decideOn cX7_decideOn 4 none :: TW)) := zGS mw_1233 mw_1234 mw_54 mw_1235
theorem cw_X7_221 : GoodIn TW (va_wsS RX7 221 yX7_isPen (.code yX7_isPen cX7_isPen 3 (some .boolean) :: TW)) := zGS mw_1240 mw_1241 mw_54 mw_1242
theorem cw_X7_224 : GoodIn TW (wsV RX7 224 RX7 yX7_turnOn (.code yX7_turnOn cX7_turnOn 7 none :: TW)) := zGV mw_1255 mw_1257 mw_43 mw_54 mw_1258
theorem cw_X7_228 : GoodIn TW (va_wsS RX7 228 yX7_allWords (.code yX7_allWords cX7_allWords 2 (some .int) :: TW)) := zGS mw_1259 mw_1260 mw_54 mw_1261
theorem dX7_countOf_0 : decode cX7_countOf 0 = .ok (.iconst 0, 1) := by decide +kernel
theorem dX7_countOf_1 : decode cX7_countOf 1 = .ok (.istore_n 2, 1) := by decide +kernel
theorem dX7_countOf_2 : decode cX7_countOf 2 = .ok (.iconst 0, 1) := by decide +kernel
theorem dX7_countOf_3 : decode cX7_countOf 3 = .ok (.istore_n 3, 1) := by decide +kernel
theorem dX7_countOf_4 : decode cX7_countOf 4 = .ok (.iload_n 3, 1) := by decide +kernel
theorem dX7_countOf_5 : decode cX7_countOf 5 = .ok (.bipush 81, 2) := by decide +kernel
theorem dX7_countOf_7 : decode cX7_countOf 7 = .ok (.if_icmp .ge 144, 3) := by decide +kernel
theorem dX7_countOf_10 : decode cX7_countOf 10 = .ok (.bipush 10, 2) := by decide +kernel
theorem dX7_countOf_12 : decode cX7_countOf 12 = .ok (.bipush 9, 2) := by decide +kernel
theorem dX7_countOf_14 : decode cX7_countOf 14 = .ok (.iload_n 3, 1) := by decide +kernel
theorem dX7_countOf_15 : decode cX7_countOf 15 = .ok (.imul, 1) := by decide +kernel
theorem dX7_countOf_16 : decode cX7_countOf 16 = .ok (.iadd, 1) := by decide +kernel
theorem dX7_countOf_17 : decode cX7_countOf 17 = .ok (.istore 4, 2) := by decide +kernel
theorem dX7_countOf_19 : decode cX7_countOf 19 = .ok (.iload_n 2, 1) := by decide +kernel
theorem dX7_countOf_20 : decode cX7_countOf 20 = .ok (.iload_n 1, 1) := by decide +kernel
theorem dX7_countOf_21 : decode cX7_countOf 21 = .ok (.bipush 7, 2) := by decide +kernel
theorem dX7_countOf_23 : decode cX7_countOf 23 = .ok (.if_icmp .ne 18, 3) := by decide +kernel
theorem dX7_countOf_26 : decode cX7_countOf 26 = .ok (.aload_n 0, 1) := by decide +kernel
theorem dX7_countOf_27 : decode cX7_countOf 27 = .ok (.getfield 16, 3) := by decide +kernel
theorem dX7_countOf_30 : decode cX7_countOf 30 = .ok (.iload 4, 2) := by decide +kernel
theorem dX7_countOf_32 : decode cX7_countOf 32 = .ok (.iaload, 1) := by decide +kernel
theorem dX7_countOf_33 : decode cX7_countOf 33 = .ok (.iconst 2, 1) := by decide +kernel
theorem dX7_countOf_34 : decode cX7_countOf 34 = .ok (.if_icmp .ne 7, 3) := by decide +kernel
theorem dX7_countOf_37 : decode cX7_countOf 37 = .ok (.iconst 1, 1) := by decide +kernel
theorem dX7_countOf_38 : decode cX7_countOf 38 = .ok (.goto 4, 3) := by decide +kernel
theorem dX7_countOf_41 : decode cX7_countOf 41 = .ok (.iconst 0, 1) := by decide +kernel
theorem dX7_countOf_42 : decode cX7_countOf 42 = .ok (.iadd, 1) := by decide +kernel
theorem dX7_countOf_43 : decode cX7_countOf 43 = .ok (.istore_n 2, 1) := by decide +kernel
theorem dX7_countOf_44 : decode cX7_countOf 44 = .ok (.iconst 0, 1) := by decide +kernel
theorem dX7_countOf_45 : decode cX7_countOf 45 = .ok (.istore 5, 2) := by decide +kernel
theorem dX7_countOf_47 : decode cX7_countOf 47 = .ok (.iload 5, 2) := by decide +kernel
theorem dX7_countOf_49 : decode cX7_countOf 49 = .ok (.aload_n 0, 1) := by decide +kernel
theorem dX7_countOf_50 : decode cX7_countOf 50 = .ok (.getfield 16, 3) := by decide +kernel
theorem dX7_countOf_53 : decode cX7_countOf 53 = .ok (.iload 4, 2) := by decide +kernel
theorem dX7_countOf_55 : decode cX7_countOf 55 = .ok (.iaload, 1) := by decide +kernel
theorem dX7_countOf_56 : decode cX7_countOf 56 = .ok (.if_icmp .ge 89, 3) := by decide +kernel
theorem dX7_countOf_59 : decode cX7_countOf 59 = .ok (.iload_n 1, 1) := by decide +kernel
theorem dX7_countOf_60 : decode cX7_countOf 60 = .ok (.iconst 4, 1) := by decide +kernel
theorem dX7_countOf_61 : decode cX7_countOf 61 = .ok (.if_icmp .ne 26, 3) := by decide +kernel
theorem dX7_countOf_64 : decode cX7_countOf 64 = .ok (.aload_n 0, 1) := by decide +kernel
theorem dX7_countOf_65 : decode cX7_countOf 65 = .ok (.getfield 16, 3) := by decide +kernel
theorem dX7_countOf_68 : decode cX7_countOf 68 = .ok (.iload 4, 2) := by decide +kernel
theorem dX7_countOf_70 : decode cX7_countOf 70 = .ok (.iload 5, 2) := by decide +kernel
theorem dX7_countOf_72 : decode cX7_countOf 72 = .ok (.invokestatic 73, 3) := by decide +kernel
theorem dX7_countOf_75 : decode cX7_countOf 75 = .ok (.iconst 3, 1) := by decide +kernel
theorem dX7_countOf_76 : decode cX7_countOf 76 = .ok (.iadd, 1) := by decide +kernel
theorem dX7_countOf_77 : decode cX7_countOf 77 = .ok (.iaload, 1) := by decide +kernel
theorem dX7_countOf_78 : decode cX7_countOf 78 = .ok (.bipush (-9), 2) := by decide +kernel
theorem dX7_countOf_80 : decode cX7_countOf 80 = .ok (.if_icmp .eq 7, 3) := by decide +kernel
theorem dX7_countOf_83 : decode cX7_countOf 83 = .ok (.iconst 1, 1) := by decide +kernel
theorem dX7_countOf_84 : decode cX7_countOf 84 = .ok (.goto 4, 3) := by decide +kernel
theorem dX7_countOf_87 : decode cX7_countOf 87 = .ok (.iconst 0, 1) := by decide +kernel
theorem dX7_countOf_88 : decode cX7_countOf 88 = .ok (.istore 6, 2) := by decide +kernel
theorem dX7_countOf_90 : decode cX7_countOf 90 = .ok (.iload_n 1, 1) := by decide +kernel
theorem dX7_countOf_91 : decode cX7_countOf 91 = .ok (.bipush 7, 2) := by decide +kernel
theorem dX7_countOf_93 : decode cX7_countOf 93 = .ok (.if_icmp .le 25, 3) := by decide +kernel
theorem dX7_countOf_96 : decode cX7_countOf 96 = .ok (.aload_n 0, 1) := by decide +kernel
theorem dX7_countOf_97 : decode cX7_countOf 97 = .ok (.getfield 16, 3) := by decide +kernel
theorem dX7_countOf_100 : decode cX7_countOf 100 = .ok (.iload 4, 2) := by decide +kernel
theorem dX7_countOf_102 : decode cX7_countOf 102 = .ok (.iload 5, 2) := by decide +kernel
theorem dX7_countOf_104 : decode cX7_countOf 104 = .ok (.invokestatic 88, 3) := by decide +kernel
theorem dX7_countOf_107 : decode cX7_countOf 107 = .ok (.iload_n 1, 1) := by decide +kernel
theorem dX7_countOf_108 : decode cX7_countOf 108 = .ok (.bipush 8, 2) := by decide +kernel
theorem dX7_countOf_110 : decode cX7_countOf 110 = .ok (.isub, 1) := by decide +kernel
theorem dX7_countOf_111 : decode cX7_countOf 111 = .ok (.if_icmp .ne 7, 3) := by decide +kernel
theorem dX7_countOf_114 : decode cX7_countOf 114 = .ok (.iconst 1, 1) := by decide +kernel
theorem dX7_countOf_115 : decode cX7_countOf 115 = .ok (.goto 4, 3) := by decide +kernel
theorem dX7_countOf_118 : decode cX7_countOf 118 = .ok (.iconst 0, 1) := by decide +kernel
theorem dX7_countOf_119 : decode cX7_countOf 119 = .ok (.istore 7, 2) := by decide +kernel
theorem dX7_countOf_121 : decode cX7_countOf 121 = .ok (.iload_n 2, 1) := by decide +kernel
theorem dX7_countOf_122 : decode cX7_countOf 122 = .ok (.iload 6, 2) := by decide +kernel
theorem dX7_countOf_124 : decode cX7_countOf 124 = .ok (.ifCond .ne 8, 3) := by decide +kernel
theorem dX7_countOf_127 : decode cX7_countOf 127 = .ok (.iload 7, 2) := by decide +kernel
theorem dX7_countOf_129 : decode cX7_countOf 129 = .ok (.ifCond .eq 7, 3) := by decide +kernel
theorem dX7_countOf_132 : decode cX7_countOf 132 = .ok (.iconst 1, 1) := by decide +kernel
theorem dX7_countOf_133 : decode cX7_countOf 133 = .ok (.goto 4, 3) := by decide +kernel
theorem dX7_countOf_136 : decode cX7_countOf 136 = .ok (.iconst 0, 1) := by decide +kernel
theorem dX7_countOf_137 : decode cX7_countOf 137 = .ok (.iadd, 1) := by decide +kernel
theorem dX7_countOf_138 : decode cX7_countOf 138 = .ok (.istore_n 2, 1) := by decide +kernel
theorem dX7_countOf_139 : decode cX7_countOf 139 = .ok (.iinc 5 1, 3) := by decide +kernel
theorem dX7_countOf_142 : decode cX7_countOf 142 = .ok (.goto (-95), 3) := by decide +kernel
theorem dX7_countOf_145 : decode cX7_countOf 145 = .ok (.iinc 3 1, 3) := by decide +kernel
theorem dX7_countOf_148 : decode cX7_countOf 148 = .ok (.goto (-144), 3) := by decide +kernel
theorem dX7_countOf_151 : decode cX7_countOf 151 = .ok (.iload_n 2, 1) := by decide +kernel
theorem dX7_countOf_152 : decode cX7_countOf 152 = .ok (.ireturn, 1) := by decide +kernel
def LX7_countOf_47 {ρ : Type} (T : zT) (h16 : zH) (x10 : Nat) (x11 : Int32) (x12 : Int32) (x13 : Int32) (K0 : Int32 → Option ρ) : Nat → Int32 → Int32 → Option ρ
  | 0, _, _ => none
  | k + 1, x14, x15 => (zgr h16 x10 7 5).bind fun x17 => (zai T h16 x17 x13).bind fun x18 => if x18 ≤ x15 then (K0 x14) else (zJ (fun (x19 : Int32) => zJ (fun (x21 : Int32) (x22 : Int32) => zJ (fun (x24 : Int32) (x25 : Int32) => LX7_countOf_47 T h16 x10 x11 x12 x13 K0 k (x25 + x24) (x15 + 1)) (fun J26 => zJ (fun (x27 : Int32) => J26 1 x27) (fun J28 => if x21 = 0 then (if x22 = 0 then (J26 0 x14) else (J28 x14)) else (J28 x14)))) (fun J23 => zJ (fun (x29 : Int32) => J23 x29 0) (fun J30 => if x11 ≤ 7 then (J30 x19) else ((zgr h16 x10 7 5).bind fun x31 => (FX7_belongs T x31 x13 x15 h16).bind fun x33 => if x33 = (x11 - 8) then (J23 x19 1) else (J30 x19))))) (fun J20 => zJ (fun (u9 : Unit) => J20 0) (fun J34 => if x11 = 4 then ((zgr h16 x10 7 5).bind fun x35 => (FX7_markAt T x13 x15 h16).bind fun x37 => (zai T h16 x35 (x37 + 3)).bind fun x38 => if x38 = (-9 : Int32) then (J34 ()) else (J20 1)) else (J34 ()))))
set_option maxHeartbeats 4000000 in
set_option maxRecDepth 100000 in
theorem LX7_countOf_47_ok {X : zX} (C : zC X cX7_countOf 8 RX7 "countOf" (some .int) 4 92) {Z : State → Prop} {al : Bool} {hi : Nat} {ρ : Type} {r9 : ρ} {h16 : zH} {x10 : Nat} {x11 : Int32} {x12 : Int32} {x13 : Int32} {K0 : Int32 → Option ρ} (hK0 : ∀ (y2 : Int32), K0 y2 = some r9 → zW X 8 Z 0 0 al hi h16 145 [(0, .ref x10), (1, .int x11), (2, .int y2), (3, .int x12)] []) : ∀ (k : Nat) (x14 : Int32) (x15 : Int32), LX7_countOf_47 (xT X) h16 x10 x11 x12 x13 K0 k x14 x15 = some r9 → zW X 8 Z 0 0 al hi h16 47 [(0, .ref x10), (1, .int x11), (2, .int x14), (3, .int x12), (4, .int x13), (5, .int x15)] [] := by
  intro k
  induction k with
  | zero =>
    intro x14 x15 hf
    have hf : none = some r9 := hf
    cases hf
  | succ k ih =>
    intro x14 x15 hf
    rw [LX7_countOf_47.eq_2] at hf
    refine z_iload C dX7_countOf_47 5 rfl ?_
    refine z_aload_n C dX7_countOf_49 0 rfl rfl ?_
    refine z_getR C fl_X7_16 dX7_countOf_50 hf (fun x17 hf => ?_)
    refine z_iload C dX7_countOf_53 4 rfl ?_
    refine z_iaload C dX7_countOf_55 hf (fun x18 hf => ?_)
    refine z_icmp_ge (tgt := 145) C dX7_countOf_56 (by decide) hf (fun hf => ?_) (fun hf => ?_)
    · refine z_sub [0, 1, 2, 3] rfl ?_
      exact hK0 _ hf
    · refine z_join (P := fun J => ∀ (x19 : Int32), J x19 = some r9 → zW X 8 Z 0 0 al hi h16 88 [(0, .ref x10), (1, .int x11), (2, .int x14), (3, .int x12), (4, .int x13), (5, .int x15)] [.int x19]) hf ?_ ?_
      · intro x19 hf
        refine z_join (P := fun J => ∀ (x21 : Int32) (x22 : Int32), J x21 x22 = some r9 → zW X 8 Z 0 0 al hi h16 119 [(0, .ref x10), (1, .int x11), (2, .int x14), (3, .int x12), (4, .int x13), (5, .int x15), (6, .int x21)] [.int x22]) hf ?_ ?_
        · intro x21 x22 hf
          refine z_join (P := fun J => ∀ (x24 : Int32) (x25 : Int32), J x24 x25 = some r9 → zW X 8 Z 0 0 al hi h16 137 [(0, .ref x10), (1, .int x11), (3, .int x12), (4, .int x13), (5, .int x15)] [.int x24, .int x25]) hf ?_ ?_
          · intro x24 x25 hf
            refine z_iadd C dX7_countOf_137 ?_
            refine z_istore_n C dX7_countOf_138 rfl (by decide) (lv' := [(2, .int (x25 + x24)), (0, .ref x10), (1, .int x11), (3, .int x12), (4, .int x13), (5, .int x15)]) rfl ?_
            refine z_iinc C dX7_countOf_139 (k := 5) (d := 1) rfl (by decide) (by decide) (lv' := [(5, .int (x15 + 1)), (2, .int (x25 + x24)), (0, .ref x10), (1, .int x11), (3, .int x12), (4, .int x13)]) rfl ?_
            refine z_goto (tgt := 47) C dX7_countOf_142 (by decide) ?_
            refine z_sub [2, 3, 1, 4, 5, 0] rfl ?_
            exact ih _ _ hf
          · intro J26 kJ26 hf
            refine z_join (P := fun J => ∀ (x27 : Int32), J x27 = some r9 → zW X 8 Z 0 0 al hi h16 132 [(0, .ref x10), (1, .int x11), (3, .int x12), (4, .int x13), (5, .int x15)] [.int x27]) hf ?_ ?_
            · intro x27 hf
              refine z_iconst C (v := 1) dX7_countOf_132 (by decide) ?_
              refine z_goto (tgt := 137) C dX7_countOf_133 (by decide) ?_
              exact kJ26 _ _ hf
            · intro J28 kJ28 hf
              refine z_istore C dX7_countOf_119 (by decide) (lv' := [(7, .int x22), (0, .ref x10), (1, .int x11), (2, .int x14), (3, .int x12), (4, .int x13), (5, .int x15), (6, .int x21)]) rfl ?_
              refine z_iload_n C dX7_countOf_121 3 rfl rfl ?_
              refine z_iload C dX7_countOf_122 7 rfl ?_
              refine z_if_ne (tgt := 132) C dX7_countOf_124 (by decide) hf (fun hf => ?_) (fun hf => ?_)
              · refine z_sub [1, 2, 4, 5, 6] rfl ?_
                exact kJ28 _ hf
              · refine z_iload C dX7_countOf_127 0 rfl ?_
                refine z_if_eq (tgt := 136) C dX7_countOf_129 (by decide) hf (fun hf => ?_) (fun hf => ?_)
                · refine z_iconst C (v := 0) dX7_countOf_136 (by decide) ?_
                  refine z_sub [1, 2, 4, 5, 6] rfl ?_
                  exact kJ26 _ _ hf
                · refine z_sub [1, 2, 4, 5, 6] rfl ?_
                  exact kJ28 _ hf
        · intro J23 kJ23 hf
          refine z_join (P := fun J => ∀ (x29 : Int32), J x29 = some r9 → zW X 8 Z 0 0 al hi h16 118 [(0, .ref x10), (1, .int x11), (2, .int x14), (3, .int x12), (4, .int x13), (5, .int x15), (6, .int x29)] []) hf ?_ ?_
          · intro x29 hf
            refine z_iconst C (v := 0) dX7_countOf_118 (by decide) ?_
            exact kJ23 _ _ hf
          · intro J30 kJ30 hf
            refine z_istore C dX7_countOf_88 (by decide) (lv' := [(6, .int x19), (0, .ref x10), (1, .int x11), (2, .int x14), (3, .int x12), (4, .int x13), (5, .int x15)]) rfl ?_
            refine z_iload_n C dX7_countOf_90 2 rfl rfl ?_
            refine z_bipush C (v := 7) dX7_countOf_91 (by decide) ?_
            refine z_icmp_le (tgt := 118) C dX7_countOf_93 (by decide) hf (fun hf => ?_) (fun hf => ?_)
            · refine z_sub [1, 2, 3, 4, 5, 6, 0] rfl ?_
              exact kJ30 _ hf
            · refine z_aload_n C dX7_countOf_96 1 rfl rfl ?_
              refine z_getR C fl_X7_16 dX7_countOf_97 hf (fun x31 hf => ?_)
              refine z_iload C dX7_countOf_100 5 rfl ?_
              refine z_iload C dX7_countOf_102 6 rfl ?_
              obtain ⟨x33, g32, hf⟩ := zbind hf
              refine z_callS (kc' := 0) (ks' := 0) C (MX7_belongs (xl X) (xD X) (xT X) (xlo X) al hi g32) cw_X7_88 ys_X7_belongs dX7_countOf_104 rfl (by decide) ⟨rfl, rfl⟩ (Nat.le_of_ble_eq_true rfl) (st := []) rfl ?_
              refine z_iload_n C dX7_countOf_107 2 rfl rfl ?_
              refine z_bipush C (v := 8) dX7_countOf_108 (by decide) ?_
              refine z_isub C dX7_countOf_110 ?_
              refine z_icmp_ne (tgt := 118) C dX7_countOf_111 (by decide) hf (fun hf => ?_) (fun hf => ?_)
              · refine z_sub [1, 2, 3, 4, 5, 6, 0] rfl ?_
                exact kJ30 _ hf
              · refine z_iconst C (v := 1) dX7_countOf_114 (by decide) ?_
                refine z_goto (tgt := 119) C dX7_countOf_115 (by decide) ?_
                refine z_sub [1, 2, 3, 4, 5, 6, 0] rfl ?_
                exact kJ23 _ _ hf
      · intro J20 kJ20 hf
        refine z_join (P := fun J => ∀ (u9 : Unit), J u9 = some r9 → zW X 8 Z 0 0 al hi h16 87 [(0, .ref x10), (1, .int x11), (2, .int x14), (3, .int x12), (4, .int x13), (5, .int x15)] []) hf ?_ ?_
        · intro u9 hf
          refine z_iconst C (v := 0) dX7_countOf_87 (by decide) ?_
          exact kJ20 _ hf
        · intro J34 kJ34 hf
          refine z_iload_n C dX7_countOf_59 1 rfl rfl ?_
          refine z_iconst C (v := 4) dX7_countOf_60 (by decide) ?_
          refine z_icmp_ne (tgt := 87) C dX7_countOf_61 (by decide) hf (fun hf => ?_) (fun hf => ?_)
          · exact kJ34 _ hf
          · refine z_aload_n C dX7_countOf_64 0 rfl rfl ?_
            refine z_getR C fl_X7_16 dX7_countOf_65 hf (fun x35 hf => ?_)
            refine z_iload C dX7_countOf_68 4 rfl ?_
            refine z_iload C dX7_countOf_70 5 rfl ?_
            obtain ⟨x37, g36, hf⟩ := zbind hf
            refine z_callS (kc' := 0) (ks' := 0) C (MX7_markAt (xl X) (xD X) (xT X) (xlo X) al hi g36) cw_X7_73 ys_X7_markAt dX7_countOf_72 rfl (by decide) ⟨rfl, rfl⟩ (Nat.le_of_ble_eq_true rfl) (st := [.ref x35]) rfl ?_
            refine z_iconst C (v := 3) dX7_countOf_75 (by decide) ?_
            refine z_iadd C dX7_countOf_76 ?_
            refine z_iaload C dX7_countOf_77 hf (fun x38 hf => ?_)
            refine z_bipush C (v := (-9 : Int32)) dX7_countOf_78 (by decide) ?_
            refine z_icmp_eq (tgt := 87) C dX7_countOf_80 (by decide) hf (fun hf => ?_) (fun hf => ?_)
            · exact kJ34 _ hf
            · refine z_iconst C (v := 1) dX7_countOf_83 (by decide) ?_
              refine z_goto (tgt := 88) C dX7_countOf_84 (by decide) ?_
              exact kJ20 _ hf
def LX7_countOf_4 {ρ : Type} (T : zT) (h5 : zH) (x1 : Nat) (x2 : Int32) (K0 : Int32 → Option ρ) : Nat → Int32 → Int32 → Option ρ
  | 0, _, _ => none
  | k + 1, x3, x4 => if 81 ≤ x4 then (K0 x3) else (zJ (fun (x6 : Int32) (x7 : Int32) (x8 : Int32) => LX7_countOf_47 T h5 x1 x2 x4 x6 (fun (x39 : Int32) => LX7_countOf_4 T h5 x1 x2 K0 k x39 (x4 + 1)) FUEL (x8 + x7) 0) (fun J9 => zJ (fun (x40 : Int32) (x41 : Int32) => J9 x40 0 x41) (fun J42 => if x2 = 7 then ((zgr h5 x1 7 5).bind fun x43 => (zai T h5 x43 (10 + (9 * x4))).bind fun x44 => if x44 = 2 then (J9 (10 + (9 * x4)) 1 x3) else (J42 (10 + (9 * x4)) x3)) else (J42 (10 + (9 * x4)) x3))))
set_option maxHeartbeats 4000000 in
set_option maxRecDepth 100000 in
theorem LX7_countOf_4_ok {X : zX} (C : zC X cX7_countOf 8 RX7 "countOf" (some .int) 4 92) {Z : State → Prop} {al : Bool} {hi : Nat} {ρ : Type} {r9 : ρ} {h5 : zH} {x1 : Nat} {x2 : Int32} {K0 : Int32 → Option ρ} (hK0 : ∀ (y2 : Int32), K0 y2 = some r9 → zW X 8 Z 0 0 al hi h5 151 [(2, .int y2)] []) : ∀ (k : Nat) (x3 : Int32) (x4 : Int32), LX7_countOf_4 (xT X) h5 x1 x2 K0 k x3 x4 = some r9 → zW X 8 Z 0 0 al hi h5 4 [(0, .ref x1), (1, .int x2), (2, .int x3), (3, .int x4)] [] := by
  intro k
  induction k with
  | zero =>
    intro x3 x4 hf
    have hf : none = some r9 := hf
    cases hf
  | succ k ih =>
    intro x3 x4 hf
    rw [LX7_countOf_4.eq_2] at hf
    refine z_iload_n C dX7_countOf_4 3 rfl rfl ?_
    refine z_bipush C (v := 81) dX7_countOf_5 (by decide) ?_
    refine z_icmp_ge (tgt := 151) C dX7_countOf_7 (by decide) hf (fun hf => ?_) (fun hf => ?_)
    · refine z_sub [2] rfl ?_
      exact hK0 _ hf
    · refine z_join (P := fun J => ∀ (x6 : Int32) (x7 : Int32) (x8 : Int32), J x6 x7 x8 = some r9 → zW X 8 Z 0 0 al hi h5 42 [(0, .ref x1), (1, .int x2), (3, .int x4), (4, .int x6)] [.int x7, .int x8]) hf ?_ ?_
      · intro x6 x7 x8 hf
        refine z_iadd C dX7_countOf_42 ?_
        refine z_istore_n C dX7_countOf_43 rfl (by decide) (lv' := [(2, .int (x8 + x7)), (0, .ref x1), (1, .int x2), (3, .int x4), (4, .int x6)]) rfl ?_
        refine z_iconst C (v := 0) dX7_countOf_44 (by decide) ?_
        refine z_istore C dX7_countOf_45 (by decide) (lv' := [(5, .int 0), (2, .int (x8 + x7)), (0, .ref x1), (1, .int x2), (3, .int x4), (4, .int x6)]) rfl ?_
        refine z_sub [2, 3, 1, 4, 5, 0] rfl ?_
        refine LX7_countOf_47_ok C ?_ FUEL _ _ hf
        · intro x39 hf
          refine z_iinc C dX7_countOf_145 (k := 3) (d := 1) rfl (by decide) (by decide) (lv' := [(3, .int (x4 + 1)), (0, .ref x1), (1, .int x2), (2, .int x39)]) rfl ?_
          refine z_goto (tgt := 4) C dX7_countOf_148 (by decide) ?_
          refine z_sub [1, 2, 3, 0] rfl ?_
          exact ih _ _ hf
      · intro J9 kJ9 hf
        refine z_join (P := fun J => ∀ (x40 : Int32) (x41 : Int32), J x40 x41 = some r9 → zW X 8 Z 0 0 al hi h5 41 [(0, .ref x1), (1, .int x2), (3, .int x4), (4, .int x40)] [.int x41]) hf ?_ ?_
        · intro x40 x41 hf
          refine z_iconst C (v := 0) dX7_countOf_41 (by decide) ?_
          exact kJ9 _ _ _ hf
        · intro J42 kJ42 hf
          refine z_bipush C (v := 10) dX7_countOf_10 (by decide) ?_
          refine z_bipush C (v := 9) dX7_countOf_12 (by decide) ?_
          refine z_iload_n C dX7_countOf_14 3 rfl rfl ?_
          refine z_imul C dX7_countOf_15 ?_
          refine z_iadd C dX7_countOf_16 ?_
          refine z_istore C dX7_countOf_17 (by decide) (lv' := [(4, .int (10 + (9 * x4))), (0, .ref x1), (1, .int x2), (2, .int x3), (3, .int x4)]) rfl ?_
          refine z_iload_n C dX7_countOf_19 3 rfl rfl ?_
          refine z_iload_n C dX7_countOf_20 2 rfl rfl ?_
          refine z_bipush C (v := 7) dX7_countOf_21 (by decide) ?_
          refine z_icmp_ne (tgt := 41) C dX7_countOf_23 (by decide) hf (fun hf => ?_) (fun hf => ?_)
          · refine z_sub [1, 2, 4, 0] rfl ?_
            exact kJ42 _ _ hf
          · refine z_aload_n C dX7_countOf_26 1 rfl rfl ?_
            refine z_getR C fl_X7_16 dX7_countOf_27 hf (fun x43 hf => ?_)
            refine z_iload C dX7_countOf_30 0 rfl ?_
            refine z_iaload C dX7_countOf_32 hf (fun x44 hf => ?_)
            refine z_iconst C (v := 2) dX7_countOf_33 (by decide) ?_
            refine z_icmp_ne (tgt := 41) C dX7_countOf_34 (by decide) hf (fun hf => ?_) (fun hf => ?_)
            · refine z_sub [1, 2, 4, 0] rfl ?_
              exact kJ42 _ _ hf
            · refine z_iconst C (v := 1) dX7_countOf_37 (by decide) ?_
              refine z_goto (tgt := 42) C dX7_countOf_38 (by decide) ?_
              refine z_sub [1, 2, 4, 0] rfl ?_
              exact kJ9 _ _ _ hf
def FX7_countOf (T : zT) (a0 : Nat) (p0 : Int32) (h : zH) : Option Int32 := (zo h a0 7).bind fun _ => LX7_countOf_4 T h a0 p0 (fun (x45 : Int32) => some x45) FUEL 0 0
set_option maxHeartbeats 4000000 in
set_option maxRecDepth 100000 in
theorem BX7_countOf {X : zX} (C : zC X cX7_countOf 8 RX7 "countOf" (some .int) 4 92) {al : Bool} {hi : Nat} {h : zH} {a0 : Nat} {p0 : Int32} {r9 : Int32} (hf : FX7_countOf (xT X) a0 p0 h = some r9) : zW X 8 (zZ X al (some (.int r9), hi, h)) 0 0 al hi h 0 [(0, .ref a0), (1, .int p0)] [] := by
  unfold FX7_countOf at hf
  obtain ⟨_, _, hf⟩ := zbind hf
  refine z_iconst C (v := 0) dX7_countOf_0 (by decide) ?_
  refine z_istore_n C dX7_countOf_1 rfl (by decide) (lv' := [(2, .int 0), (0, .ref a0), (1, .int p0)]) rfl ?_
  refine z_iconst C (v := 0) dX7_countOf_2 (by decide) ?_
  refine z_istore_n C dX7_countOf_3 rfl (by decide) (lv' := [(3, .int 0), (2, .int 0), (0, .ref a0), (1, .int p0)]) rfl ?_
  refine z_sub [2, 3, 1, 0] rfl ?_
  refine LX7_countOf_4_ok C ?_ FUEL _ _ hf
  · intro x45 hf
    refine z_iload_n C dX7_countOf_151 0 rfl rfl ?_
    exact z_ireturn C dX7_countOf_152 (by cases hf; rfl)
theorem MX7_countOf (l : Launch) (D : va_G) (T : zT) (lo : Nat) (al : Bool) (hi : Nat) {h : zH} {a0 : Nat} {p0 : Int32} {v9 : Int32} (hf : FX7_countOf T a0 p0 h = some v9) : zM l yX7_countOf (.code yX7_countOf cX7_countOf 8 (some .int) :: TW) ({ frames := 4, cells := 0, slots := 0, locals := 92 } : Room) D T lo al [.ref a0, .int p0] hi h (some (.int v9), hi, h) :=
  z_enter (own := RX7) (nm := "countOf") (lv := [(0, .ref a0), (1, .int p0)]) (by decide +kernel) rfl rfl (Nat.le_of_ble_eq_true rfl) rfl (fun _ _ _ _ _ _ _ _ C => BX7_countOf C hf)
theorem OX7_countOf {T : zT} {h : zH} {a0 : Nat} {p0 : Int32} {r9 : Int32} (hf : FX7_countOf T a0 p0 h = some r9) : ∃ fs, h a0 = some (.inr (7, fs)) := by
  obtain ⟨_, h1, _⟩ := zbind hf
  exact zo_obj h1
theorem dX7_about_0 : decode cX7_about 0 = .ok (.aload_n 0, 1) := by decide +kernel
theorem dX7_about_1 : decode cX7_about 1 = .ok (.iload_n 1, 1) := by decide +kernel
theorem dX7_about_2 : decode cX7_about 2 = .ok (.i2l, 1) := by decide +kernel
theorem dX7_about_3 : decode cX7_about 3 = .ok (.lconst 0, 1) := by decide +kernel
theorem dX7_about_4 : decode cX7_about 4 = .ok (.ldc2_w 127, 3) := by decide +kernel
theorem dX7_about_7 : decode cX7_about 7 = .ok (.invokestatic 58, 3) := by decide +kernel
theorem dX7_about_10 : decode cX7_about 10 = .ok (.ifCond .eq 7, 3) := by decide +kernel
theorem dX7_about_13 : decode cX7_about 13 = .ok (.iconst 0, 1) := by decide +kernel
theorem dX7_about_14 : decode cX7_about 14 = .ok (.goto 4, 3) := by decide +kernel
theorem dX7_about_17 : decode cX7_about 17 = .ok (.iconst 1, 1) := by decide +kernel
theorem dX7_about_18 : decode cX7_about 18 = .ok (.invokevirtual 120, 3) := by decide +kernel
theorem dX7_about_21 : decode cX7_about 21 = .ok (.ifCond .eq 5, 3) := by decide +kernel
theorem dX7_about_24 : decode cX7_about 24 = .ok (.iconst 0, 1) := by decide +kernel
theorem dX7_about_25 : decode cX7_about 25 = .ok (.ireturn, 1) := by decide +kernel
theorem dX7_about_26 : decode cX7_about 26 = .ok (.iload_n 1, 1) := by decide +kernel
theorem dX7_about_27 : decode cX7_about 27 = .ok (.tableswitch 78 0 6 #[41, 41, 48, 56, 78, 64, 71], 41) := by decide +kernel
theorem dX7_about_68 : decode cX7_about 68 = .ok (.aload_n 0, 1) := by decide +kernel
theorem dX7_about_69 : decode cX7_about 69 = .ok (.getfield 16, 3) := by decide +kernel
theorem dX7_about_72 : decode cX7_about 72 = .ok (.iload_n 1, 1) := by decide +kernel
theorem dX7_about_73 : decode cX7_about 73 = .ok (.iaload, 1) := by decide +kernel
theorem dX7_about_74 : decode cX7_about 74 = .ok (.ireturn, 1) := by decide +kernel
theorem dX7_about_75 : decode cX7_about 75 = .ok (.aload_n 0, 1) := by decide +kernel
theorem dX7_about_76 : decode cX7_about 76 = .ok (.getfield 16, 3) := by decide +kernel
theorem dX7_about_79 : decode cX7_about 79 = .ok (.invokestatic 171, 3) := by decide +kernel
theorem dX7_about_82 : decode cX7_about 82 = .ok (.ireturn, 1) := by decide +kernel
theorem dX7_about_83 : decode cX7_about 83 = .ok (.aload_n 0, 1) := by decide +kernel
theorem dX7_about_84 : decode cX7_about 84 = .ok (.getfield 16, 3) := by decide +kernel
theorem dX7_about_87 : decode cX7_about 87 = .ok (.invokestatic 175, 3) := by decide +kernel
theorem dX7_about_90 : decode cX7_about 90 = .ok (.ireturn, 1) := by decide +kernel
theorem dX7_about_91 : decode cX7_about 91 = .ok (.aload_n 0, 1) := by decide +kernel
theorem dX7_about_92 : decode cX7_about 92 = .ok (.getfield 16, 3) := by decide +kernel
theorem dX7_about_95 : decode cX7_about 95 = .ok (.iconst 2, 1) := by decide +kernel
theorem dX7_about_96 : decode cX7_about 96 = .ok (.iaload, 1) := by decide +kernel
theorem dX7_about_97 : decode cX7_about 97 = .ok (.ireturn, 1) := by decide +kernel
theorem dX7_about_98 : decode cX7_about 98 = .ok (.aload_n 0, 1) := by decide +kernel
theorem dX7_about_99 : decode cX7_about 99 = .ok (.getfield 16, 3) := by decide +kernel
theorem dX7_about_102 : decode cX7_about 102 = .ok (.iconst 3, 1) := by decide +kernel
theorem dX7_about_103 : decode cX7_about 103 = .ok (.iaload, 1) := by decide +kernel
theorem dX7_about_104 : decode cX7_about 104 = .ok (.ireturn, 1) := by decide +kernel
theorem dX7_about_105 : decode cX7_about 105 = .ok (.aload_n 0, 1) := by decide +kernel
theorem dX7_about_106 : decode cX7_about 106 = .ok (.iload_n 1, 1) := by decide +kernel
theorem dX7_about_107 : decode cX7_about 107 = .ok (.invokevirtual 178, 3) := by decide +kernel
theorem dX7_about_110 : decode cX7_about 110 = .ok (.ireturn, 1) := by decide +kernel
def FX7_about (T : zT) (a0 : Nat) (p0 : Int32) (h : zH) : Option (Int32 × zH) := (zo h a0 7).bind fun _ => zJ (fun (x1 : Int32) (x2 : Nat) => zb2 (FX7_refused T x2 x1 h) fun x5 h6 => if x5 = 0 then (zJ (fun (u9 : Unit) => (FX7_countOf T a0 p0 h6).bind fun x9 => some (x9, h6)) (fun J7 => zJ (fun (u9 : Unit) => (zgr h6 a0 7 5).bind fun x11 => (zai T h6 x11 p0).bind fun x12 => some (x12, h6)) (fun J10 => if p0 = 0 then (J10 ()) else (if p0 = 1 then (J10 ()) else (if p0 = 2 then ((zgr h6 a0 7 5).bind fun x13 => (FX7_marksOf T x13 h6).bind fun x15 => some (x15, h6)) else (if p0 = 3 then ((zgr h6 a0 7 5).bind fun x16 => (FX7_doubts T x16 h6).bind fun x18 => some (x18, h6)) else (if p0 = 4 then (J7 ()) else (if p0 = 5 then ((zgr h6 a0 7 5).bind fun x19 => (zai T h6 x19 2).bind fun x20 => some (x20, h6)) else (if p0 = 6 then ((zgr h6 a0 7 5).bind fun x21 => (zai T h6 x21 3).bind fun x22 => some (x22, h6)) else (J7 ())))))))))) else (some (0, h6))) (fun J3 => (FX7_in T p0.toInt64 (0 : Int64) (9 : Int64) h).bind fun x24 => if x24 = 0 then (J3 1 a0) else (J3 0 a0))
set_option maxHeartbeats 4000000 in
set_option maxRecDepth 100000 in
theorem BX7_about {X : zX} (C : zC X cX7_about 2 RX7 "about" (some .int) 5 119) {al : Bool} {hi : Nat} {h : zH} {a0 : Nat} {p0 : Int32} {r9 : (Int32 × zH)} (hf : FX7_about (xT X) a0 p0 h = some r9) : zW X 2 (zZ X al (some (.int r9.1), hi, r9.2)) 0 0 al hi h 0 [(0, .ref a0), (1, .int p0)] [] := by
  unfold FX7_about at hf
  obtain ⟨_, _, hf⟩ := zbind hf
  refine z_join (P := fun J => ∀ (x1 : Int32) (x2 : Nat), J x1 x2 = some r9 → zW X 2 (zZ X al (some (.int r9.1), hi, r9.2)) 0 0 al hi h 18 [(0, .ref a0), (1, .int p0)] [.int x1, .ref x2]) hf ?_ ?_
  · intro x1 x2 hf
    obtain ⟨x5, h6, g4, hf⟩ := zbind2 hf
    refine z_callV (kc' := 0) (ks' := 0) C (MX7_refused (xl X) (xD X) (xT X) (xlo X) al hi g4) (OX7_refused g4) rfl cw_X7_120 yv_X7_refused dX7_about_18 rfl (by decide) ⟨rfl, rfl⟩ (Nat.le_of_ble_eq_true rfl) (st := []) rfl ?_
    refine z_if_eq (tgt := 26) C dX7_about_21 (by decide) hf (fun hf => ?_) (fun hf => ?_)
    · refine z_join (P := fun J => ∀ (u9 : Unit), J u9 = some r9 → zW X 2 (zZ X al (some (.int r9.1), hi, r9.2)) 0 0 al hi h6 105 [(0, .ref a0), (1, .int p0)] []) hf ?_ ?_
      · intro u9 hf
        refine z_aload_n C dX7_about_105 0 rfl rfl ?_
        refine z_iload_n C dX7_about_106 1 rfl rfl ?_
        obtain ⟨x9, g8, hf⟩ := zbind hf
        refine z_callV (kc' := 0) (ks' := 0) C (MX7_countOf (xl X) (xD X) (xT X) (xlo X) al hi g8) (OX7_countOf g8) rfl cw_X7_178 yv_X7_countOf dX7_about_107 rfl (by decide) ⟨rfl, rfl⟩ (Nat.le_of_ble_eq_true rfl) (st := []) rfl ?_
        exact z_ireturn C dX7_about_110 (by cases hf; rfl)
      · intro J7 kJ7 hf
        refine z_join (P := fun J => ∀ (u9 : Unit), J u9 = some r9 → zW X 2 (zZ X al (some (.int r9.1), hi, r9.2)) 0 0 al hi h6 68 [(0, .ref a0), (1, .int p0)] []) hf ?_ ?_
        · intro u9 hf
          refine z_aload_n C dX7_about_68 0 rfl rfl ?_
          refine z_getR C fl_X7_16 dX7_about_69 hf (fun x11 hf => ?_)
          refine z_iload_n C dX7_about_72 1 rfl rfl ?_
          refine z_iaload C dX7_about_73 hf (fun x12 hf => ?_)
          exact z_ireturn C dX7_about_74 (by cases hf; rfl)
        · intro J10 kJ10 hf
          refine z_iload_n C dX7_about_26 1 rfl rfl ?_
          refine z_ite hf (fun c hf => ?_) (fun c0 hf => ?_)
          · refine z_tswIn (k := 0) (off := 41) (tgt := 68) C c dX7_about_27 (by decide) (by decide) ?_
            exact kJ10 _ hf
          · refine z_ite hf (fun c hf => ?_) (fun c1 hf => ?_)
            · refine z_tswIn (k := 1) (off := 41) (tgt := 68) C c dX7_about_27 (by decide) (by decide) ?_
              exact kJ10 _ hf
            · refine z_ite hf (fun c hf => ?_) (fun c2 hf => ?_)
              · refine z_tswIn (k := 2) (off := 48) (tgt := 75) C c dX7_about_27 (by decide) (by decide) ?_
                refine z_aload_n C dX7_about_75 0 rfl rfl ?_
                refine z_getR C fl_X7_16 dX7_about_76 hf (fun x13 hf => ?_)
                obtain ⟨x15, g14, hf⟩ := zbind hf
                refine z_callS (kc' := 0) (ks' := 0) C (MX7_marksOf (xl X) (xD X) (xT X) (xlo X) al hi g14) cw_X7_171 ys_X7_marksOf dX7_about_79 rfl (by decide) ⟨rfl, rfl⟩ (Nat.le_of_ble_eq_true rfl) (st := []) rfl ?_
                exact z_ireturn C dX7_about_82 (by cases hf; rfl)
              · refine z_ite hf (fun c hf => ?_) (fun c3 hf => ?_)
                · refine z_tswIn (k := 3) (off := 56) (tgt := 83) C c dX7_about_27 (by decide) (by decide) ?_
                  refine z_aload_n C dX7_about_83 0 rfl rfl ?_
                  refine z_getR C fl_X7_16 dX7_about_84 hf (fun x16 hf => ?_)
                  obtain ⟨x18, g17, hf⟩ := zbind hf
                  refine z_callS (kc' := 0) (ks' := 0) C (MX7_doubts (xl X) (xD X) (xT X) (xlo X) al hi g17) cw_X7_175 ys_X7_doubts dX7_about_87 rfl (by decide) ⟨rfl, rfl⟩ (Nat.le_of_ble_eq_true rfl) (st := []) rfl ?_
                  exact z_ireturn C dX7_about_90 (by cases hf; rfl)
                · refine z_ite hf (fun c hf => ?_) (fun c4 hf => ?_)
                  · refine z_tswIn (k := 4) (off := 78) (tgt := 105) C c dX7_about_27 (by decide) (by decide) ?_
                    exact kJ7 _ hf
                  · refine z_ite hf (fun c hf => ?_) (fun c5 hf => ?_)
                    · refine z_tswIn (k := 5) (off := 64) (tgt := 91) C c dX7_about_27 (by decide) (by decide) ?_
                      refine z_aload_n C dX7_about_91 0 rfl rfl ?_
                      refine z_getR C fl_X7_16 dX7_about_92 hf (fun x19 hf => ?_)
                      refine z_iconst C (v := 2) dX7_about_95 (by decide) ?_
                      refine z_iaload C dX7_about_96 hf (fun x20 hf => ?_)
                      exact z_ireturn C dX7_about_97 (by cases hf; rfl)
                    · refine z_ite hf (fun c hf => ?_) (fun c6 hf => ?_)
                      · refine z_tswIn (k := 6) (off := 71) (tgt := 98) C c dX7_about_27 (by decide) (by decide) ?_
                        refine z_aload_n C dX7_about_98 0 rfl rfl ?_
                        refine z_getR C fl_X7_16 dX7_about_99 hf (fun x21 hf => ?_)
                        refine z_iconst C (v := 3) dX7_about_102 (by decide) ?_
                        refine z_iaload C dX7_about_103 hf (fun x22 hf => ?_)
                        exact z_ireturn C dX7_about_104 (by cases hf; rfl)
                      · refine z_tswOut (tgt := 105) C dX7_about_27 (by have e0 := z_ne (i := 0) (by decide) c0; have e1 := z_ne (i := 1) (by decide) c1; have e2 := z_ne (i := 2) (by decide) c2; have e3 := z_ne (i := 3) (by decide) c3; have e4 := z_ne (i := 4) (by decide) c4; have e5 := z_ne (i := 5) (by decide) c5; have e6 := z_ne (i := 6) (by decide) c6; omega) (by decide) ?_
                        exact kJ7 _ hf
    · refine z_iconst C (v := 0) dX7_about_24 (by decide) ?_
      exact z_ireturn C dX7_about_25 (by cases hf; rfl)
  · intro J3 kJ3 hf
    refine z_aload_n C dX7_about_0 0 rfl rfl ?_
    refine z_iload_n C dX7_about_1 1 rfl rfl ?_
    refine z_i2l C dX7_about_2 ?_
    refine z_lconst C (v := 0) dX7_about_3 (by decide) ?_
    refine z_ldc2 C (v := 9) mw_1075 dX7_about_4 ?_
    obtain ⟨x24, g23, hf⟩ := zbind hf
    refine z_callS (kc' := 0) (ks' := 0) C (MX7_in (xl X) (xD X) (xT X) (xlo X) al hi g23) cw_X7_58 ys_X7_in dX7_about_7 rfl (by decide) ⟨rfl, rfl⟩ (Nat.le_of_ble_eq_true rfl) (st := [.ref a0]) rfl ?_
    refine z_if_eq (tgt := 17) C dX7_about_10 (by decide) hf (fun hf => ?_) (fun hf => ?_)
    · refine z_iconst C (v := 1) dX7_about_17 (by decide) ?_
      exact kJ3 _ _ hf
    · refine z_iconst C (v := 0) dX7_about_13 (by decide) ?_
      refine z_goto (tgt := 18) C dX7_about_14 (by decide) ?_
      exact kJ3 _ _ hf
theorem MX7_about (l : Launch) (D : va_G) (T : zT) (lo : Nat) (al : Bool) (hi : Nat) {h : zH} {a0 : Nat} {p0 : Int32} {v9 : Int32} {h9 : zH} (hf : FX7_about T a0 p0 h = some (v9, h9)) : zM l yX7_about (.code yX7_about cX7_about 2 (some .int) :: TW) ({ frames := 5, cells := 0, slots := 0, locals := 119 } : Room) D T lo al [.ref a0, .int p0] hi h (some (.int v9), hi, h9) :=
  z_enter (own := RX7) (nm := "about") (lv := [(0, .ref a0), (1, .int p0)]) (by decide +kernel) rfl rfl (Nat.le_of_ble_eq_true rfl) rfl (fun _ _ _ _ _ _ _ _ C => BX7_about C hf)
theorem OX7_about {T : zT} {h : zH} {a0 : Nat} {p0 : Int32} {r9 : (Int32 × zH)} (hf : FX7_about T a0 p0 h = some r9) : ∃ fs, h a0 = some (.inr (7, fs)) := by
  obtain ⟨_, h1, _⟩ := zbind hf
  exact zo_obj h1
theorem dX7_letter_0 : decode cX7_letter 0 = .ok (.aload_n 0, 1) := by decide +kernel
theorem dX7_letter_1 : decode cX7_letter 1 = .ok (.iload_n 1, 1) := by decide +kernel
theorem dX7_letter_2 : decode cX7_letter 2 = .ok (.invokestatic 182, 3) := by decide +kernel
theorem dX7_letter_5 : decode cX7_letter 5 = .ok (.ifCond .ne 7, 3) := by decide +kernel
theorem dX7_letter_8 : decode cX7_letter 8 = .ok (.iconst 1, 1) := by decide +kernel
theorem dX7_letter_9 : decode cX7_letter 9 = .ok (.goto 20, 3) := by decide +kernel
theorem dX7_letter_12 : decode cX7_letter 12 = .ok (.iload_n 2, 1) := by decide +kernel
theorem dX7_letter_13 : decode cX7_letter 13 = .ok (.i2l, 1) := by decide +kernel
theorem dX7_letter_14 : decode cX7_letter 14 = .ok (.lconst 0, 1) := by decide +kernel
theorem dX7_letter_15 : decode cX7_letter 15 = .ok (.ldc2_w 185, 3) := by decide +kernel
theorem dX7_letter_18 : decode cX7_letter 18 = .ok (.invokestatic 58, 3) := by decide +kernel
theorem dX7_letter_21 : decode cX7_letter 21 = .ok (.ifCond .ne 7, 3) := by decide +kernel
theorem dX7_letter_24 : decode cX7_letter 24 = .ok (.iconst 2, 1) := by decide +kernel
theorem dX7_letter_25 : decode cX7_letter 25 = .ok (.goto 4, 3) := by decide +kernel
theorem dX7_letter_28 : decode cX7_letter 28 = .ok (.iconst 0, 1) := by decide +kernel
theorem dX7_letter_29 : decode cX7_letter 29 = .ok (.invokevirtual 120, 3) := by decide +kernel
theorem dX7_letter_32 : decode cX7_letter 32 = .ok (.ifCond .eq 5, 3) := by decide +kernel
theorem dX7_letter_35 : decode cX7_letter 35 = .ok (.iconst 0, 1) := by decide +kernel
theorem dX7_letter_36 : decode cX7_letter 36 = .ok (.ireturn, 1) := by decide +kernel
theorem dX7_letter_37 : decode cX7_letter 37 = .ok (.iload_n 2, 1) := by decide +kernel
theorem dX7_letter_38 : decode cX7_letter 38 = .ok (.iconst 3, 1) := by decide +kernel
theorem dX7_letter_39 : decode cX7_letter 39 = .ok (.if_icmp .ge 16, 3) := by decide +kernel
theorem dX7_letter_42 : decode cX7_letter 42 = .ok (.aload_n 0, 1) := by decide +kernel
theorem dX7_letter_43 : decode cX7_letter 43 = .ok (.getfield 16, 3) := by decide +kernel
theorem dX7_letter_46 : decode cX7_letter 46 = .ok (.iconst 4, 1) := by decide +kernel
theorem dX7_letter_47 : decode cX7_letter 47 = .ok (.iconst 3, 1) := by decide +kernel
theorem dX7_letter_48 : decode cX7_letter 48 = .ok (.iload_n 1, 1) := by decide +kernel
theorem dX7_letter_49 : decode cX7_letter 49 = .ok (.imul, 1) := by decide +kernel
theorem dX7_letter_50 : decode cX7_letter 50 = .ok (.iadd, 1) := by decide +kernel
theorem dX7_letter_51 : decode cX7_letter 51 = .ok (.iload_n 2, 1) := by decide +kernel
theorem dX7_letter_52 : decode cX7_letter 52 = .ok (.iadd, 1) := by decide +kernel
theorem dX7_letter_53 : decode cX7_letter 53 = .ok (.iaload, 1) := by decide +kernel
theorem dX7_letter_54 : decode cX7_letter 54 = .ok (.ireturn, 1) := by decide +kernel
theorem dX7_letter_55 : decode cX7_letter 55 = .ok (.aload_n 0, 1) := by decide +kernel
theorem dX7_letter_56 : decode cX7_letter 56 = .ok (.iload_n 1, 1) := by decide +kernel
theorem dX7_letter_57 : decode cX7_letter 57 = .ok (.invokevirtual 187, 3) := by decide +kernel
theorem dX7_letter_60 : decode cX7_letter 60 = .ok (.istore_n 3, 1) := by decide +kernel
theorem dX7_letter_61 : decode cX7_letter 61 = .ok (.iconst 0, 1) := by decide +kernel
theorem dX7_letter_62 : decode cX7_letter 62 = .ok (.istore 4, 2) := by decide +kernel
theorem dX7_letter_64 : decode cX7_letter 64 = .ok (.iconst 0, 1) := by decide +kernel
theorem dX7_letter_65 : decode cX7_letter 65 = .ok (.istore 5, 2) := by decide +kernel
theorem dX7_letter_67 : decode cX7_letter 67 = .ok (.iload 5, 2) := by decide +kernel
theorem dX7_letter_69 : decode cX7_letter 69 = .ok (.iload_n 3, 1) := by decide +kernel
theorem dX7_letter_70 : decode cX7_letter 70 = .ok (.if_icmp .ge 55, 3) := by decide +kernel
theorem dX7_letter_73 : decode cX7_letter 73 = .ok (.aload_n 0, 1) := by decide +kernel
theorem dX7_letter_74 : decode cX7_letter 74 = .ok (.getfield 38, 3) := by decide +kernel
theorem dX7_letter_77 : decode cX7_letter 77 = .ok (.iload 5, 2) := by decide +kernel
theorem dX7_letter_79 : decode cX7_letter 79 = .ok (.iconst 1, 1) := by decide +kernel
theorem dX7_letter_80 : decode cX7_letter 80 = .ok (.iadd, 1) := by decide +kernel
theorem dX7_letter_81 : decode cX7_letter 81 = .ok (.iaload, 1) := by decide +kernel
theorem dX7_letter_82 : decode cX7_letter 82 = .ok (.aload_n 0, 1) := by decide +kernel
theorem dX7_letter_83 : decode cX7_letter 83 = .ok (.getfield 38, 3) := by decide +kernel
theorem dX7_letter_86 : decode cX7_letter 86 = .ok (.iload 5, 2) := by decide +kernel
theorem dX7_letter_88 : decode cX7_letter 88 = .ok (.iaload, 1) := by decide +kernel
theorem dX7_letter_89 : decode cX7_letter 89 = .ok (.isub, 1) := by decide +kernel
theorem dX7_letter_90 : decode cX7_letter 90 = .ok (.iload 4, 2) := by decide +kernel
theorem dX7_letter_92 : decode cX7_letter 92 = .ok (.if_icmp .le 23, 3) := by decide +kernel
theorem dX7_letter_95 : decode cX7_letter 95 = .ok (.aload_n 0, 1) := by decide +kernel
theorem dX7_letter_96 : decode cX7_letter 96 = .ok (.getfield 38, 3) := by decide +kernel
theorem dX7_letter_99 : decode cX7_letter 99 = .ok (.iload 5, 2) := by decide +kernel
theorem dX7_letter_101 : decode cX7_letter 101 = .ok (.iconst 1, 1) := by decide +kernel
theorem dX7_letter_102 : decode cX7_letter 102 = .ok (.iadd, 1) := by decide +kernel
theorem dX7_letter_103 : decode cX7_letter 103 = .ok (.iaload, 1) := by decide +kernel
theorem dX7_letter_104 : decode cX7_letter 104 = .ok (.aload_n 0, 1) := by decide +kernel
theorem dX7_letter_105 : decode cX7_letter 105 = .ok (.getfield 38, 3) := by decide +kernel
theorem dX7_letter_108 : decode cX7_letter 108 = .ok (.iload 5, 2) := by decide +kernel
theorem dX7_letter_110 : decode cX7_letter 110 = .ok (.iaload, 1) := by decide +kernel
theorem dX7_letter_111 : decode cX7_letter 111 = .ok (.isub, 1) := by decide +kernel
theorem dX7_letter_112 : decode cX7_letter 112 = .ok (.goto 5, 3) := by decide +kernel
theorem dX7_letter_115 : decode cX7_letter 115 = .ok (.iload 4, 2) := by decide +kernel
theorem dX7_letter_117 : decode cX7_letter 117 = .ok (.istore 4, 2) := by decide +kernel
theorem dX7_letter_119 : decode cX7_letter 119 = .ok (.iinc 5 1, 3) := by decide +kernel
theorem dX7_letter_122 : decode cX7_letter 122 = .ok (.goto (-55), 3) := by decide +kernel
theorem dX7_letter_125 : decode cX7_letter 125 = .ok (.iload_n 2, 1) := by decide +kernel
theorem dX7_letter_126 : decode cX7_letter 126 = .ok (.iconst 3, 1) := by decide +kernel
theorem dX7_letter_127 : decode cX7_letter 127 = .ok (.if_icmp .ne 7, 3) := by decide +kernel
theorem dX7_letter_130 : decode cX7_letter 130 = .ok (.iload_n 3, 1) := by decide +kernel
theorem dX7_letter_131 : decode cX7_letter 131 = .ok (.goto 5, 3) := by decide +kernel
theorem dX7_letter_134 : decode cX7_letter 134 = .ok (.iload 4, 2) := by decide +kernel
theorem dX7_letter_136 : decode cX7_letter 136 = .ok (.ireturn, 1) := by decide +kernel
def LX7_letter_67 {ρ : Type} (T : zT) (h15 : zH) (x10 : Nat) (x11 : Int32) (x12 : Int32) (K0 : Int32 → Option ρ) : Nat → Int32 → Int32 → Option ρ
  | 0, _, _ => none
  | k + 1, x13, x14 => if x12 ≤ x14 then (K0 x13) else (zJ (fun (x16 : Int32) => LX7_letter_67 T h15 x10 x11 x12 K0 k x16 (x14 + 1)) (fun J17 => (zgr h15 x10 7 13).bind fun x18 => (zai T h15 x18 (x14 + 1)).bind fun x19 => (zgr h15 x10 7 13).bind fun x20 => (zai T h15 x20 x14).bind fun x21 => if (x19 - x21) ≤ x13 then (J17 x13) else ((zgr h15 x10 7 13).bind fun x22 => (zai T h15 x22 (x14 + 1)).bind fun x23 => (zgr h15 x10 7 13).bind fun x24 => (zai T h15 x24 x14).bind fun x25 => J17 (x23 - x25))))
set_option maxHeartbeats 4000000 in
set_option maxRecDepth 100000 in
theorem LX7_letter_67_ok {X : zX} (C : zC X cX7_letter 6 RX7 "letter" (some .int) 7 170) {Z : State → Prop} {al : Bool} {hi : Nat} {ρ : Type} {r9 : ρ} {h15 : zH} {x10 : Nat} {x11 : Int32} {x12 : Int32} {K0 : Int32 → Option ρ} (hK0 : ∀ (y4 : Int32), K0 y4 = some r9 → zW X 6 Z 0 0 al hi h15 125 [(2, .int x11), (3, .int x12), (4, .int y4)] []) : ∀ (k : Nat) (x13 : Int32) (x14 : Int32), LX7_letter_67 (xT X) h15 x10 x11 x12 K0 k x13 x14 = some r9 → zW X 6 Z 0 0 al hi h15 67 [(0, .ref x10), (2, .int x11), (3, .int x12), (4, .int x13), (5, .int x14)] [] := by
  intro k
  induction k with
  | zero =>
    intro x13 x14 hf
    have hf : none = some r9 := hf
    cases hf
  | succ k ih =>
    intro x13 x14 hf
    rw [LX7_letter_67.eq_2] at hf
    refine z_iload C dX7_letter_67 4 rfl ?_
    refine z_iload_n C dX7_letter_69 2 rfl rfl ?_
    refine z_icmp_ge (tgt := 125) C dX7_letter_70 (by decide) hf (fun hf => ?_) (fun hf => ?_)
    · refine z_sub [1, 2, 3] rfl ?_
      exact hK0 _ hf
    · refine z_join (P := fun J => ∀ (x16 : Int32), J x16 = some r9 → zW X 6 Z 0 0 al hi h15 117 [(0, .ref x10), (2, .int x11), (3, .int x12), (5, .int x14)] [.int x16]) hf ?_ ?_
      · intro x16 hf
        refine z_istore C dX7_letter_117 (by decide) (lv' := [(4, .int x16), (0, .ref x10), (2, .int x11), (3, .int x12), (5, .int x14)]) rfl ?_
        refine z_iinc C dX7_letter_119 (k := 4) (d := 1) rfl (by decide) (by decide) (lv' := [(5, .int (x14 + 1)), (4, .int x16), (0, .ref x10), (2, .int x11), (3, .int x12)]) rfl ?_
        refine z_goto (tgt := 67) C dX7_letter_122 (by decide) ?_
        refine z_sub [2, 3, 4, 1, 0] rfl ?_
        exact ih _ _ hf
      · intro J17 kJ17 hf
        refine z_aload_n C dX7_letter_73 0 rfl rfl ?_
        refine z_getR C fl_X7_38 dX7_letter_74 hf (fun x18 hf => ?_)
        refine z_iload C dX7_letter_77 4 rfl ?_
        refine z_iconst C (v := 1) dX7_letter_79 (by decide) ?_
        refine z_iadd C dX7_letter_80 ?_
        refine z_iaload C dX7_letter_81 hf (fun x19 hf => ?_)
        refine z_aload_n C dX7_letter_82 0 rfl rfl ?_
        refine z_getR C fl_X7_38 dX7_letter_83 hf (fun x20 hf => ?_)
        refine z_iload C dX7_letter_86 4 rfl ?_
        refine z_iaload C dX7_letter_88 hf (fun x21 hf => ?_)
        refine z_isub C dX7_letter_89 ?_
        refine z_iload C dX7_letter_90 3 rfl ?_
        refine z_icmp_le (tgt := 115) C dX7_letter_92 (by decide) hf (fun hf => ?_) (fun hf => ?_)
        · refine z_iload C dX7_letter_115 3 rfl ?_
          refine z_sub [0, 1, 2, 4] rfl ?_
          exact kJ17 _ hf
        · refine z_aload_n C dX7_letter_95 0 rfl rfl ?_
          refine z_getR C fl_X7_38 dX7_letter_96 hf (fun x22 hf => ?_)
          refine z_iload C dX7_letter_99 4 rfl ?_
          refine z_iconst C (v := 1) dX7_letter_101 (by decide) ?_
          refine z_iadd C dX7_letter_102 ?_
          refine z_iaload C dX7_letter_103 hf (fun x23 hf => ?_)
          refine z_aload_n C dX7_letter_104 0 rfl rfl ?_
          refine z_getR C fl_X7_38 dX7_letter_105 hf (fun x24 hf => ?_)
          refine z_iload C dX7_letter_108 4 rfl ?_
          refine z_iaload C dX7_letter_110 hf (fun x25 hf => ?_)
          refine z_isub C dX7_letter_111 ?_
          refine z_goto (tgt := 117) C dX7_letter_112 (by decide) ?_
          refine z_sub [0, 1, 2, 4] rfl ?_
          exact kJ17 _ hf
def FX7_letter (T : zT) (a0 : Nat) (p0 : Int32) (p1 : Int32) (h : zH) : Option (Int32 × zH) := (zo h a0 7).bind fun _ => zJ (fun (x1 : Int32) (x2 : Nat) => zb2 (FX7_refused T x2 x1 h) fun x5 h6 => if x5 = 0 then (if 3 ≤ p1 then (zb2 (FX7_layNow T a0 p0 h6) fun x8 h9 => LX7_letter_67 T h9 a0 p1 x8 (fun (x26 : Int32) => zJ (fun (x27 : Int32) => some (x27, h9)) (fun J28 => if p1 = 3 then (J28 x8) else (J28 x26))) FUEL 0 0) else ((zgr h6 a0 7 5).bind fun x29 => (zai T h6 x29 ((4 + (3 * p0)) + p1)).bind fun x30 => some (x30, h6))) else (some (0, h6))) (fun J3 => (FX7_isLetter T p0 h).bind fun x32 => if x32 = 0 then (J3 1 a0) else ((FX7_in T p1.toInt64 (0 : Int64) (4 : Int64) h).bind fun x34 => if x34 = 0 then (J3 2 a0) else (J3 0 a0)))
set_option maxHeartbeats 4000000 in
set_option maxRecDepth 100000 in
theorem BX7_letter {X : zX} (C : zC X cX7_letter 6 RX7 "letter" (some .int) 7 170) {al : Bool} {hi : Nat} {h : zH} {a0 : Nat} {p0 : Int32} {p1 : Int32} {r9 : (Int32 × zH)} (hf : FX7_letter (xT X) a0 p0 p1 h = some r9) : zW X 6 (zZ X al (some (.int r9.1), hi, r9.2)) 0 0 al hi h 0 [(0, .ref a0), (1, .int p0), (2, .int p1)] [] := by
  unfold FX7_letter at hf
  obtain ⟨_, _, hf⟩ := zbind hf
  refine z_join (P := fun J => ∀ (x1 : Int32) (x2 : Nat), J x1 x2 = some r9 → zW X 6 (zZ X al (some (.int r9.1), hi, r9.2)) 0 0 al hi h 29 [(0, .ref a0), (1, .int p0), (2, .int p1)] [.int x1, .ref x2]) hf ?_ ?_
  · intro x1 x2 hf
    obtain ⟨x5, h6, g4, hf⟩ := zbind2 hf
    refine z_callV (kc' := 0) (ks' := 0) C (MX7_refused (xl X) (xD X) (xT X) (xlo X) al hi g4) (OX7_refused g4) rfl cw_X7_120 yv_X7_refused dX7_letter_29 rfl (by decide) ⟨rfl, rfl⟩ (Nat.le_of_ble_eq_true rfl) (st := []) rfl ?_
    refine z_if_eq (tgt := 37) C dX7_letter_32 (by decide) hf (fun hf => ?_) (fun hf => ?_)
    · refine z_iload_n C dX7_letter_37 2 rfl rfl ?_
      refine z_iconst C (v := 3) dX7_letter_38 (by decide) ?_
      refine z_icmp_ge (tgt := 55) C dX7_letter_39 (by decide) hf (fun hf => ?_) (fun hf => ?_)
      · refine z_aload_n C dX7_letter_55 0 rfl rfl ?_
        refine z_iload_n C dX7_letter_56 1 rfl rfl ?_
        obtain ⟨x8, h9, g7, hf⟩ := zbind2 hf
        refine z_callV (kc' := 0) (ks' := 0) C (MX7_layNow (xl X) (xD X) (xT X) (xlo X) al hi g7) (OX7_layNow g7) rfl cw_X7_187 yv_X7_layNow dX7_letter_57 rfl (by decide) ⟨rfl, rfl⟩ (Nat.le_of_ble_eq_true rfl) (st := []) rfl ?_
        refine z_istore_n C dX7_letter_60 rfl (by decide) (lv' := [(3, .int x8), (0, .ref a0), (1, .int p0), (2, .int p1)]) rfl ?_
        refine z_iconst C (v := 0) dX7_letter_61 (by decide) ?_
        refine z_istore C dX7_letter_62 (by decide) (lv' := [(4, .int 0), (3, .int x8), (0, .ref a0), (1, .int p0), (2, .int p1)]) rfl ?_
        refine z_iconst C (v := 0) dX7_letter_64 (by decide) ?_
        refine z_istore C dX7_letter_65 (by decide) (lv' := [(5, .int 0), (4, .int 0), (3, .int x8), (0, .ref a0), (1, .int p0), (2, .int p1)]) rfl ?_
        refine z_sub [3, 5, 2, 1, 0] rfl ?_
        refine LX7_letter_67_ok C ?_ FUEL _ _ hf
        · intro x26 hf
          refine z_join (P := fun J => ∀ (x27 : Int32), J x27 = some r9 → zW X 6 (zZ X al (some (.int r9.1), hi, r9.2)) 0 0 al hi h9 136 [] [.int x27]) hf ?_ ?_
          · intro x27 hf
            exact z_ireturn C dX7_letter_136 (by cases hf; rfl)
          · intro J28 kJ28 hf
            refine z_iload_n C dX7_letter_125 0 rfl rfl ?_
            refine z_iconst C (v := 3) dX7_letter_126 (by decide) ?_
            refine z_icmp_ne (tgt := 134) C dX7_letter_127 (by decide) hf (fun hf => ?_) (fun hf => ?_)
            · refine z_iload C dX7_letter_134 2 rfl ?_
              refine z_sub [] rfl ?_
              exact kJ28 _ hf
            · refine z_iload_n C dX7_letter_130 1 rfl rfl ?_
              refine z_goto (tgt := 136) C dX7_letter_131 (by decide) ?_
              refine z_sub [] rfl ?_
              exact kJ28 _ hf
      · refine z_aload_n C dX7_letter_42 0 rfl rfl ?_
        refine z_getR C fl_X7_16 dX7_letter_43 hf (fun x29 hf => ?_)
        refine z_iconst C (v := 4) dX7_letter_46 (by decide) ?_
        refine z_iconst C (v := 3) dX7_letter_47 (by decide) ?_
        refine z_iload_n C dX7_letter_48 1 rfl rfl ?_
        refine z_imul C dX7_letter_49 ?_
        refine z_iadd C dX7_letter_50 ?_
        refine z_iload_n C dX7_letter_51 2 rfl rfl ?_
        refine z_iadd C dX7_letter_52 ?_
        refine z_iaload C dX7_letter_53 hf (fun x30 hf => ?_)
        exact z_ireturn C dX7_letter_54 (by cases hf; rfl)
    · refine z_iconst C (v := 0) dX7_letter_35 (by decide) ?_
      exact z_ireturn C dX7_letter_36 (by cases hf; rfl)
  · intro J3 kJ3 hf
    refine z_aload_n C dX7_letter_0 0 rfl rfl ?_
    refine z_iload_n C dX7_letter_1 1 rfl rfl ?_
    obtain ⟨x32, g31, hf⟩ := zbind hf
    refine z_callS (kc' := 0) (ks' := 0) C (MX7_isLetter (xl X) (xD X) (xT X) (xlo X) al hi g31) cw_X7_182 ys_X7_isLetter dX7_letter_2 rfl (by decide) ⟨rfl, rfl⟩ (Nat.le_of_ble_eq_true rfl) (st := [.ref a0]) rfl ?_
    refine z_if_ne (tgt := 12) C dX7_letter_5 (by decide) hf (fun hf => ?_) (fun hf => ?_)
    · refine z_iload_n C dX7_letter_12 2 rfl rfl ?_
      refine z_i2l C dX7_letter_13 ?_
      refine z_lconst C (v := 0) dX7_letter_14 (by decide) ?_
      refine z_ldc2 C (v := 4) mw_1160 dX7_letter_15 ?_
      obtain ⟨x34, g33, hf⟩ := zbind hf
      refine z_callS (kc' := 0) (ks' := 0) C (MX7_in (xl X) (xD X) (xT X) (xlo X) al hi g33) cw_X7_58 ys_X7_in dX7_letter_18 rfl (by decide) ⟨rfl, rfl⟩ (Nat.le_of_ble_eq_true rfl) (st := [.ref a0]) rfl ?_
      refine z_if_ne (tgt := 28) C dX7_letter_21 (by decide) hf (fun hf => ?_) (fun hf => ?_)
      · refine z_iconst C (v := 0) dX7_letter_28 (by decide) ?_
        exact kJ3 _ _ hf
      · refine z_iconst C (v := 2) dX7_letter_24 (by decide) ?_
        refine z_goto (tgt := 29) C dX7_letter_25 (by decide) ?_
        exact kJ3 _ _ hf
    · refine z_iconst C (v := 1) dX7_letter_8 (by decide) ?_
      refine z_goto (tgt := 29) C dX7_letter_9 (by decide) ?_
      exact kJ3 _ _ hf
theorem MX7_letter (l : Launch) (D : va_G) (T : zT) (lo : Nat) (al : Bool) (hi : Nat) {h : zH} {a0 : Nat} {p0 : Int32} {p1 : Int32} {v9 : Int32} {h9 : zH} (hf : FX7_letter T a0 p0 p1 h = some (v9, h9)) : zM l yX7_letter (.code yX7_letter cX7_letter 6 (some .int) :: TW) ({ frames := 7, cells := 0, slots := 0, locals := 170 } : Room) D T lo al [.ref a0, .int p0, .int p1] hi h (some (.int v9), hi, h9) :=
  z_enter (own := RX7) (nm := "letter") (lv := [(0, .ref a0), (1, .int p0), (2, .int p1)]) (by decide +kernel) rfl rfl (Nat.le_of_ble_eq_true rfl) rfl (fun _ _ _ _ _ _ _ _ C => BX7_letter C hf)
theorem OX7_letter {T : zT} {h : zH} {a0 : Nat} {p0 : Int32} {p1 : Int32} {r9 : (Int32 × zH)} (hf : FX7_letter T a0 p0 p1 h = some r9) : ∃ fs, h a0 = some (.inr (7, fs)) := by
  obtain ⟨_, h1, _⟩ := zbind hf
  exact zo_obj h1
theorem dX7_marks_0 : decode cX7_marks 0 = .ok (.aload_n 0, 1) := by decide +kernel
theorem dX7_marks_1 : decode cX7_marks 1 = .ok (.aload_n 0, 1) := by decide +kernel
theorem dX7_marks_2 : decode cX7_marks 2 = .ok (.getfield 16, 3) := by decide +kernel
theorem dX7_marks_5 : decode cX7_marks 5 = .ok (.iload_n 1, 1) := by decide +kernel
theorem dX7_marks_6 : decode cX7_marks 6 = .ok (.iload_n 2, 1) := by decide +kernel
theorem dX7_marks_7 : decode cX7_marks 7 = .ok (.invokestatic 62, 3) := by decide +kernel
theorem dX7_marks_10 : decode cX7_marks 10 = .ok (.ifCond .eq 7, 3) := by decide +kernel
theorem dX7_marks_13 : decode cX7_marks 13 = .ok (.iconst 0, 1) := by decide +kernel
theorem dX7_marks_14 : decode cX7_marks 14 = .ok (.goto 4, 3) := by decide +kernel
theorem dX7_marks_17 : decode cX7_marks 17 = .ok (.iconst 1, 1) := by decide +kernel
theorem dX7_marks_18 : decode cX7_marks 18 = .ok (.invokevirtual 120, 3) := by decide +kernel
theorem dX7_marks_21 : decode cX7_marks 21 = .ok (.ifCond .eq 7, 3) := by decide +kernel
theorem dX7_marks_24 : decode cX7_marks 24 = .ok (.iconst 0, 1) := by decide +kernel
theorem dX7_marks_25 : decode cX7_marks 25 = .ok (.goto 13, 3) := by decide +kernel
theorem dX7_marks_28 : decode cX7_marks 28 = .ok (.aload_n 0, 1) := by decide +kernel
theorem dX7_marks_29 : decode cX7_marks 29 = .ok (.getfield 16, 3) := by decide +kernel
theorem dX7_marks_32 : decode cX7_marks 32 = .ok (.iload_n 1, 1) := by decide +kernel
theorem dX7_marks_33 : decode cX7_marks 33 = .ok (.iload_n 2, 1) := by decide +kernel
theorem dX7_marks_34 : decode cX7_marks 34 = .ok (.invokestatic 66, 3) := by decide +kernel
theorem dX7_marks_37 : decode cX7_marks 37 = .ok (.iaload, 1) := by decide +kernel
theorem dX7_marks_38 : decode cX7_marks 38 = .ok (.ireturn, 1) := by decide +kernel
def FX7_marks (T : zT) (a0 : Nat) (p0 : Int32) (p1 : Int32) (h : zH) : Option (Int32 × zH) := (zo h a0 7).bind fun _ => zJ (fun (x1 : Int32) (x2 : Nat) => zJ (fun (x4 : Int32) (h5 : zH) => some (x4, h5)) (fun J6 => zb2 (FX7_refused T x2 x1 h) fun x8 h9 => if x8 = 0 then ((zgr h9 a0 7 5).bind fun x10 => (FX7_cellAt T p0 p1 h9).bind fun x12 => (zai T h9 x10 x12).bind fun x13 => J6 x13 h9) else (J6 0 h9))) (fun J3 => (zgr h a0 7 5).bind fun x14 => (FX7_isCell T x14 p0 p1 h).bind fun x16 => if x16 = 0 then (J3 1 a0) else (J3 0 a0))
set_option maxHeartbeats 4000000 in
set_option maxRecDepth 100000 in
theorem BX7_marks {X : zX} (C : zC X cX7_marks 3 RX7 "marks" (some .int) 2 47) {al : Bool} {hi : Nat} {h : zH} {a0 : Nat} {p0 : Int32} {p1 : Int32} {r9 : (Int32 × zH)} (hf : FX7_marks (xT X) a0 p0 p1 h = some r9) : zW X 3 (zZ X al (some (.int r9.1), hi, r9.2)) 0 0 al hi h 0 [(0, .ref a0), (1, .int p0), (2, .int p1)] [] := by
  unfold FX7_marks at hf
  obtain ⟨_, _, hf⟩ := zbind hf
  refine z_join (P := fun J => ∀ (x1 : Int32) (x2 : Nat), J x1 x2 = some r9 → zW X 3 (zZ X al (some (.int r9.1), hi, r9.2)) 0 0 al hi h 18 [(0, .ref a0), (1, .int p0), (2, .int p1)] [.int x1, .ref x2]) hf ?_ ?_
  · intro x1 x2 hf
    refine z_join (P := fun J => ∀ (x4 : Int32) (h5 : zH), J x4 h5 = some r9 → zW X 3 (zZ X al (some (.int r9.1), hi, r9.2)) 0 0 al hi h5 38 [] [.int x4]) hf ?_ ?_
    · intro x4 h5 hf
      exact z_ireturn C dX7_marks_38 (by cases hf; rfl)
    · intro J6 kJ6 hf
      obtain ⟨x8, h9, g7, hf⟩ := zbind2 hf
      refine z_callV (kc' := 0) (ks' := 0) C (MX7_refused (xl X) (xD X) (xT X) (xlo X) al hi g7) (OX7_refused g7) rfl cw_X7_120 yv_X7_refused dX7_marks_18 rfl (by decide) ⟨rfl, rfl⟩ (Nat.le_of_ble_eq_true rfl) (st := []) rfl ?_
      refine z_if_eq (tgt := 28) C dX7_marks_21 (by decide) hf (fun hf => ?_) (fun hf => ?_)
      · refine z_aload_n C dX7_marks_28 0 rfl rfl ?_
        refine z_getR C fl_X7_16 dX7_marks_29 hf (fun x10 hf => ?_)
        refine z_iload_n C dX7_marks_32 1 rfl rfl ?_
        refine z_iload_n C dX7_marks_33 2 rfl rfl ?_
        obtain ⟨x12, g11, hf⟩ := zbind hf
        refine z_callS (kc' := 0) (ks' := 0) C (MX7_cellAt (xl X) (xD X) (xT X) (xlo X) al hi g11) cw_X7_66 ys_X7_cellAt dX7_marks_34 rfl (by decide) ⟨rfl, rfl⟩ (Nat.le_of_ble_eq_true rfl) (st := [.ref x10]) rfl ?_
        refine z_iaload C dX7_marks_37 hf (fun x13 hf => ?_)
        refine z_sub [] rfl ?_
        exact kJ6 _ _ hf
      · refine z_iconst C (v := 0) dX7_marks_24 (by decide) ?_
        refine z_goto (tgt := 38) C dX7_marks_25 (by decide) ?_
        refine z_sub [] rfl ?_
        exact kJ6 _ _ hf
  · intro J3 kJ3 hf
    refine z_aload_n C dX7_marks_0 0 rfl rfl ?_
    refine z_aload_n C dX7_marks_1 0 rfl rfl ?_
    refine z_getR C fl_X7_16 dX7_marks_2 hf (fun x14 hf => ?_)
    refine z_iload_n C dX7_marks_5 1 rfl rfl ?_
    refine z_iload_n C dX7_marks_6 2 rfl rfl ?_
    obtain ⟨x16, g15, hf⟩ := zbind hf
    refine z_callS (kc' := 0) (ks' := 0) C (MX7_isCell (xl X) (xD X) (xT X) (xlo X) al hi g15) cw_X7_62 ys_X7_isCell dX7_marks_7 rfl (by decide) ⟨rfl, rfl⟩ (Nat.le_of_ble_eq_true rfl) (st := [.ref a0]) rfl ?_
    refine z_if_eq (tgt := 17) C dX7_marks_10 (by decide) hf (fun hf => ?_) (fun hf => ?_)
    · refine z_iconst C (v := 1) dX7_marks_17 (by decide) ?_
      exact kJ3 _ _ hf
    · refine z_iconst C (v := 0) dX7_marks_13 (by decide) ?_
      refine z_goto (tgt := 18) C dX7_marks_14 (by decide) ?_
      exact kJ3 _ _ hf
theorem MX7_marks (l : Launch) (D : va_G) (T : zT) (lo : Nat) (al : Bool) (hi : Nat) {h : zH} {a0 : Nat} {p0 : Int32} {p1 : Int32} {v9 : Int32} {h9 : zH} (hf : FX7_marks T a0 p0 p1 h = some (v9, h9)) : zM l yX7_marks (.code yX7_marks cX7_marks 3 (some .int) :: TW) ({ frames := 2, cells := 0, slots := 0, locals := 47 } : Room) D T lo al [.ref a0, .int p0, .int p1] hi h (some (.int v9), hi, h9) :=
  z_enter (own := RX7) (nm := "marks") (lv := [(0, .ref a0), (1, .int p0), (2, .int p1)]) (by decide +kernel) rfl rfl (Nat.le_of_ble_eq_true rfl) rfl (fun _ _ _ _ _ _ _ _ C => BX7_marks C hf)
theorem OX7_marks {T : zT} {h : zH} {a0 : Nat} {p0 : Int32} {p1 : Int32} {r9 : (Int32 × zH)} (hf : FX7_marks T a0 p0 p1 h = some r9) : ∃ fs, h a0 = some (.inr (7, fs)) := by
  obtain ⟨_, h1, _⟩ := zbind hf
  exact zo_obj h1
theorem dX7_mark_0 : decode cX7_mark 0 = .ok (.aload_n 0, 1) := by decide +kernel
theorem dX7_mark_1 : decode cX7_mark 1 = .ok (.aload_n 0, 1) := by decide +kernel
theorem dX7_mark_2 : decode cX7_mark 2 = .ok (.getfield 16, 3) := by decide +kernel
theorem dX7_mark_5 : decode cX7_mark 5 = .ok (.iload_n 1, 1) := by decide +kernel
theorem dX7_mark_6 : decode cX7_mark 6 = .ok (.iload_n 2, 1) := by decide +kernel
theorem dX7_mark_7 : decode cX7_mark 7 = .ok (.iload_n 3, 1) := by decide +kernel
theorem dX7_mark_8 : decode cX7_mark 8 = .ok (.invokestatic 190, 3) := by decide +kernel
theorem dX7_mark_11 : decode cX7_mark 11 = .ok (.ifCond .ne 7, 3) := by decide +kernel
theorem dX7_mark_14 : decode cX7_mark 14 = .ok (.iconst 1, 1) := by decide +kernel
theorem dX7_mark_15 : decode cX7_mark 15 = .ok (.goto 21, 3) := by decide +kernel
theorem dX7_mark_18 : decode cX7_mark 18 = .ok (.iload 4, 2) := by decide +kernel
theorem dX7_mark_20 : decode cX7_mark 20 = .ok (.i2l, 1) := by decide +kernel
theorem dX7_mark_21 : decode cX7_mark 21 = .ok (.lconst 0, 1) := by decide +kernel
theorem dX7_mark_22 : decode cX7_mark 22 = .ok (.ldc2_w 194, 3) := by decide +kernel
theorem dX7_mark_25 : decode cX7_mark 25 = .ok (.invokestatic 58, 3) := by decide +kernel
theorem dX7_mark_28 : decode cX7_mark 28 = .ok (.ifCond .ne 7, 3) := by decide +kernel
theorem dX7_mark_31 : decode cX7_mark 31 = .ok (.iconst 2, 1) := by decide +kernel
theorem dX7_mark_32 : decode cX7_mark 32 = .ok (.goto 4, 3) := by decide +kernel
theorem dX7_mark_35 : decode cX7_mark 35 = .ok (.iconst 0, 1) := by decide +kernel
theorem dX7_mark_36 : decode cX7_mark 36 = .ok (.invokevirtual 120, 3) := by decide +kernel
theorem dX7_mark_39 : decode cX7_mark 39 = .ok (.ifCond .eq 5, 3) := by decide +kernel
theorem dX7_mark_42 : decode cX7_mark 42 = .ok (.iconst 0, 1) := by decide +kernel
theorem dX7_mark_43 : decode cX7_mark 43 = .ok (.ireturn, 1) := by decide +kernel
theorem dX7_mark_44 : decode cX7_mark 44 = .ok (.iload_n 1, 1) := by decide +kernel
theorem dX7_mark_45 : decode cX7_mark 45 = .ok (.iload_n 2, 1) := by decide +kernel
theorem dX7_mark_46 : decode cX7_mark 46 = .ok (.invokestatic 66, 3) := by decide +kernel
theorem dX7_mark_49 : decode cX7_mark 49 = .ok (.istore 5, 2) := by decide +kernel
theorem dX7_mark_51 : decode cX7_mark 51 = .ok (.iload 4, 2) := by decide +kernel
theorem dX7_mark_53 : decode cX7_mark 53 = .ok (.tableswitch 81 4 7 #[31, 42, 62, 62], 31) := by decide +kernel
theorem dX7_mark_84 : decode cX7_mark 84 = .ok (.aload_n 0, 1) := by decide +kernel
theorem dX7_mark_85 : decode cX7_mark 85 = .ok (.getfield 16, 3) := by decide +kernel
theorem dX7_mark_88 : decode cX7_mark 88 = .ok (.iload 5, 2) := by decide +kernel
theorem dX7_mark_90 : decode cX7_mark 90 = .ok (.iload_n 3, 1) := by decide +kernel
theorem dX7_mark_91 : decode cX7_mark 91 = .ok (.invokestatic 88, 3) := by decide +kernel
theorem dX7_mark_94 : decode cX7_mark 94 = .ok (.ireturn, 1) := by decide +kernel
theorem dX7_mark_95 : decode cX7_mark 95 = .ok (.aload_n 0, 1) := by decide +kernel
theorem dX7_mark_96 : decode cX7_mark 96 = .ok (.getfield 16, 3) := by decide +kernel
theorem dX7_mark_99 : decode cX7_mark 99 = .ok (.iload 5, 2) := by decide +kernel
theorem dX7_mark_101 : decode cX7_mark 101 = .ok (.iload_n 3, 1) := by decide +kernel
theorem dX7_mark_102 : decode cX7_mark 102 = .ok (.aload_n 0, 1) := by decide +kernel
theorem dX7_mark_103 : decode cX7_mark 103 = .ok (.getfield 16, 3) := by decide +kernel
theorem dX7_mark_106 : decode cX7_mark 106 = .ok (.iconst 2, 1) := by decide +kernel
theorem dX7_mark_107 : decode cX7_mark 107 = .ok (.iaload, 1) := by decide +kernel
theorem dX7_mark_108 : decode cX7_mark 108 = .ok (.invokestatic 80, 3) := by decide +kernel
theorem dX7_mark_111 : decode cX7_mark 111 = .ok (.bipush 10, 2) := by decide +kernel
theorem dX7_mark_113 : decode cX7_mark 113 = .ok (.idiv, 1) := by decide +kernel
theorem dX7_mark_114 : decode cX7_mark 114 = .ok (.ireturn, 1) := by decide +kernel
theorem dX7_mark_115 : decode cX7_mark 115 = .ok (.aload_n 0, 1) := by decide +kernel
theorem dX7_mark_116 : decode cX7_mark 116 = .ok (.getfield 16, 3) := by decide +kernel
theorem dX7_mark_119 : decode cX7_mark 119 = .ok (.iload 5, 2) := by decide +kernel
theorem dX7_mark_121 : decode cX7_mark 121 = .ok (.iload_n 3, 1) := by decide +kernel
theorem dX7_mark_122 : decode cX7_mark 122 = .ok (.invokestatic 73, 3) := by decide +kernel
theorem dX7_mark_125 : decode cX7_mark 125 = .ok (.iload 4, 2) := by decide +kernel
theorem dX7_mark_127 : decode cX7_mark 127 = .ok (.bipush 6, 2) := by decide +kernel
theorem dX7_mark_129 : decode cX7_mark 129 = .ok (.isub, 1) := by decide +kernel
theorem dX7_mark_130 : decode cX7_mark 130 = .ok (.invokestatic 76, 3) := by decide +kernel
theorem dX7_mark_133 : decode cX7_mark 133 = .ok (.ireturn, 1) := by decide +kernel
theorem dX7_mark_134 : decode cX7_mark 134 = .ok (.aload_n 0, 1) := by decide +kernel
theorem dX7_mark_135 : decode cX7_mark 135 = .ok (.getfield 16, 3) := by decide +kernel
theorem dX7_mark_138 : decode cX7_mark 138 = .ok (.iload 5, 2) := by decide +kernel
theorem dX7_mark_140 : decode cX7_mark 140 = .ok (.iload_n 3, 1) := by decide +kernel
theorem dX7_mark_141 : decode cX7_mark 141 = .ok (.invokestatic 73, 3) := by decide +kernel
theorem dX7_mark_144 : decode cX7_mark 144 = .ok (.iload 4, 2) := by decide +kernel
theorem dX7_mark_146 : decode cX7_mark 146 = .ok (.iadd, 1) := by decide +kernel
theorem dX7_mark_147 : decode cX7_mark 147 = .ok (.iaload, 1) := by decide +kernel
theorem dX7_mark_148 : decode cX7_mark 148 = .ok (.ireturn, 1) := by decide +kernel
def FX7_mark (T : zT) (a0 : Nat) (p0 : Int32) (p1 : Int32) (p2 : Int32) (p3 : Int32) (h : zH) : Option (Int32 × zH) := (zo h a0 7).bind fun _ => zJ (fun (x1 : Int32) (x2 : Nat) => zb2 (FX7_refused T x2 x1 h) fun x5 h6 => if x5 = 0 then (zJ (fun (x7 : Int32) => (zgr h6 a0 7 5).bind fun x9 => (FX7_markAt T x7 p2 h6).bind fun x11 => (FX7_distance T x9 x11 (p3 - 6) h6).bind fun x13 => some (x13, h6)) (fun J8 => (FX7_cellAt T p0 p1 h6).bind fun x15 => if p3 = 4 then ((zgr h6 a0 7 5).bind fun x16 => (FX7_belongs T x16 x15 p2 h6).bind fun x18 => some (x18, h6)) else (if p3 = 5 then ((zgr h6 a0 7 5).bind fun x19 => (zgr h6 a0 7 5).bind fun x20 => (zai T h6 x20 2).bind fun x21 => (FX7_rule T x19 x15 p2 x21 h6).bind fun x23 => (zdivI x23 10).bind fun x24 => some (x24, h6)) else (if p3 = 6 then (J8 x15) else (if p3 = 7 then (J8 x15) else ((zgr h6 a0 7 5).bind fun x25 => (FX7_markAt T x15 p2 h6).bind fun x27 => (zai T h6 x25 (x27 + p3)).bind fun x28 => some (x28, h6))))))) else (some (0, h6))) (fun J3 => (zgr h a0 7 5).bind fun x29 => (FX7_isMark T x29 p0 p1 p2 h).bind fun x31 => if x31 = 0 then (J3 1 a0) else ((FX7_in T p3.toInt64 (0 : Int64) (7 : Int64) h).bind fun x33 => if x33 = 0 then (J3 2 a0) else (J3 0 a0)))
set_option maxHeartbeats 4000000 in
set_option maxRecDepth 100000 in
theorem BX7_mark {X : zX} (C : zC X cX7_mark 6 RX7 "mark" (some .int) 4 92) {al : Bool} {hi : Nat} {h : zH} {a0 : Nat} {p0 : Int32} {p1 : Int32} {p2 : Int32} {p3 : Int32} {r9 : (Int32 × zH)} (hf : FX7_mark (xT X) a0 p0 p1 p2 p3 h = some r9) : zW X 6 (zZ X al (some (.int r9.1), hi, r9.2)) 0 0 al hi h 0 [(0, .ref a0), (1, .int p0), (2, .int p1), (3, .int p2), (4, .int p3)] [] := by
  unfold FX7_mark at hf
  obtain ⟨_, _, hf⟩ := zbind hf
  refine z_join (P := fun J => ∀ (x1 : Int32) (x2 : Nat), J x1 x2 = some r9 → zW X 6 (zZ X al (some (.int r9.1), hi, r9.2)) 0 0 al hi h 36 [(0, .ref a0), (1, .int p0), (2, .int p1), (3, .int p2), (4, .int p3)] [.int x1, .ref x2]) hf ?_ ?_
  · intro x1 x2 hf
    obtain ⟨x5, h6, g4, hf⟩ := zbind2 hf
    refine z_callV (kc' := 0) (ks' := 0) C (MX7_refused (xl X) (xD X) (xT X) (xlo X) al hi g4) (OX7_refused g4) rfl cw_X7_120 yv_X7_refused dX7_mark_36 rfl (by decide) ⟨rfl, rfl⟩ (Nat.le_of_ble_eq_true rfl) (st := []) rfl ?_
    refine z_if_eq (tgt := 44) C dX7_mark_39 (by decide) hf (fun hf => ?_) (fun hf => ?_)
    · refine z_join (P := fun J => ∀ (x7 : Int32), J x7 = some r9 → zW X 6 (zZ X al (some (.int r9.1), hi, r9.2)) 0 0 al hi h6 115 [(0, .ref a0), (3, .int p2), (4, .int p3), (5, .int x7)] []) hf ?_ ?_
      · intro x7 hf
        refine z_aload_n C dX7_mark_115 0 rfl rfl ?_
        refine z_getR C fl_X7_16 dX7_mark_116 hf (fun x9 hf => ?_)
        refine z_iload C dX7_mark_119 3 rfl ?_
        refine z_iload_n C dX7_mark_121 1 rfl rfl ?_
        obtain ⟨x11, g10, hf⟩ := zbind hf
        refine z_callS (kc' := 0) (ks' := 0) C (MX7_markAt (xl X) (xD X) (xT X) (xlo X) al hi g10) cw_X7_73 ys_X7_markAt dX7_mark_122 rfl (by decide) ⟨rfl, rfl⟩ (Nat.le_of_ble_eq_true rfl) (st := [.ref x9]) rfl ?_
        refine z_iload C dX7_mark_125 2 rfl ?_
        refine z_bipush C (v := 6) dX7_mark_127 (by decide) ?_
        refine z_isub C dX7_mark_129 ?_
        obtain ⟨x13, g12, hf⟩ := zbind hf
        refine z_callS (kc' := 0) (ks' := 0) C (MX7_distance (xl X) (xD X) (xT X) (xlo X) al hi g12) cw_X7_76 ys_X7_distance dX7_mark_130 rfl (by decide) ⟨rfl, rfl⟩ (Nat.le_of_ble_eq_true rfl) (st := []) rfl ?_
        exact z_ireturn C dX7_mark_133 (by cases hf; rfl)
      · intro J8 kJ8 hf
        refine z_iload_n C dX7_mark_44 1 rfl rfl ?_
        refine z_iload_n C dX7_mark_45 2 rfl rfl ?_
        obtain ⟨x15, g14, hf⟩ := zbind hf
        refine z_callS (kc' := 0) (ks' := 0) C (MX7_cellAt (xl X) (xD X) (xT X) (xlo X) al hi g14) cw_X7_66 ys_X7_cellAt dX7_mark_46 rfl (by decide) ⟨rfl, rfl⟩ (Nat.le_of_ble_eq_true rfl) (st := []) rfl ?_
        refine z_istore C dX7_mark_49 (by decide) (lv' := [(5, .int x15), (0, .ref a0), (1, .int p0), (2, .int p1), (3, .int p2), (4, .int p3)]) rfl ?_
        refine z_iload C dX7_mark_51 5 rfl ?_
        refine z_ite hf (fun c hf => ?_) (fun c4 hf => ?_)
        · refine z_tswIn (k := 4) (off := 31) (tgt := 84) C c dX7_mark_53 (by decide) (by decide) ?_
          refine z_aload_n C dX7_mark_84 1 rfl rfl ?_
          refine z_getR C fl_X7_16 dX7_mark_85 hf (fun x16 hf => ?_)
          refine z_iload C dX7_mark_88 0 rfl ?_
          refine z_iload_n C dX7_mark_90 4 rfl rfl ?_
          obtain ⟨x18, g17, hf⟩ := zbind hf
          refine z_callS (kc' := 0) (ks' := 0) C (MX7_belongs (xl X) (xD X) (xT X) (xlo X) al hi g17) cw_X7_88 ys_X7_belongs dX7_mark_91 rfl (by decide) ⟨rfl, rfl⟩ (Nat.le_of_ble_eq_true rfl) (st := []) rfl ?_
          exact z_ireturn C dX7_mark_94 (by cases hf; rfl)
        · refine z_ite hf (fun c hf => ?_) (fun c5 hf => ?_)
          · refine z_tswIn (k := 5) (off := 42) (tgt := 95) C c dX7_mark_53 (by decide) (by decide) ?_
            refine z_aload_n C dX7_mark_95 1 rfl rfl ?_
            refine z_getR C fl_X7_16 dX7_mark_96 hf (fun x19 hf => ?_)
            refine z_iload C dX7_mark_99 0 rfl ?_
            refine z_iload_n C dX7_mark_101 4 rfl rfl ?_
            refine z_aload_n C dX7_mark_102 1 rfl rfl ?_
            refine z_getR C fl_X7_16 dX7_mark_103 hf (fun x20 hf => ?_)
            refine z_iconst C (v := 2) dX7_mark_106 (by decide) ?_
            refine z_iaload C dX7_mark_107 hf (fun x21 hf => ?_)
            obtain ⟨x23, g22, hf⟩ := zbind hf
            refine z_callS (kc' := 0) (ks' := 0) C (MX7_rule (xl X) (xD X) (xT X) (xlo X) al hi g22) cw_X7_80 ys_X7_rule dX7_mark_108 rfl (by decide) ⟨rfl, rfl⟩ (Nat.le_of_ble_eq_true rfl) (st := []) rfl ?_
            refine z_bipush C (v := 10) dX7_mark_111 (by decide) ?_
            refine z_idiv C dX7_mark_113 hf (fun x24 _ hf => ?_)
            exact z_ireturn C dX7_mark_114 (by cases hf; rfl)
          · refine z_ite hf (fun c hf => ?_) (fun c6 hf => ?_)
            · refine z_tswIn (k := 6) (off := 62) (tgt := 115) C c dX7_mark_53 (by decide) (by decide) ?_
              refine z_sub [1, 4, 5, 0] rfl ?_
              exact kJ8 _ hf
            · refine z_ite hf (fun c hf => ?_) (fun c7 hf => ?_)
              · refine z_tswIn (k := 7) (off := 62) (tgt := 115) C c dX7_mark_53 (by decide) (by decide) ?_
                refine z_sub [1, 4, 5, 0] rfl ?_
                exact kJ8 _ hf
              · refine z_tswOut (tgt := 134) C dX7_mark_53 (by have e4 := z_ne (i := 4) (by decide) c4; have e5 := z_ne (i := 5) (by decide) c5; have e6 := z_ne (i := 6) (by decide) c6; have e7 := z_ne (i := 7) (by decide) c7; omega) (by decide) ?_
                refine z_aload_n C dX7_mark_134 1 rfl rfl ?_
                refine z_getR C fl_X7_16 dX7_mark_135 hf (fun x25 hf => ?_)
                refine z_iload C dX7_mark_138 0 rfl ?_
                refine z_iload_n C dX7_mark_140 4 rfl rfl ?_
                obtain ⟨x27, g26, hf⟩ := zbind hf
                refine z_callS (kc' := 0) (ks' := 0) C (MX7_markAt (xl X) (xD X) (xT X) (xlo X) al hi g26) cw_X7_73 ys_X7_markAt dX7_mark_141 rfl (by decide) ⟨rfl, rfl⟩ (Nat.le_of_ble_eq_true rfl) (st := [.ref x25]) rfl ?_
                refine z_iload C dX7_mark_144 5 rfl ?_
                refine z_iadd C dX7_mark_146 ?_
                refine z_iaload C dX7_mark_147 hf (fun x28 hf => ?_)
                exact z_ireturn C dX7_mark_148 (by cases hf; rfl)
    · refine z_iconst C (v := 0) dX7_mark_42 (by decide) ?_
      exact z_ireturn C dX7_mark_43 (by cases hf; rfl)
  · intro J3 kJ3 hf
    refine z_aload_n C dX7_mark_0 0 rfl rfl ?_
    refine z_aload_n C dX7_mark_1 0 rfl rfl ?_
    refine z_getR C fl_X7_16 dX7_mark_2 hf (fun x29 hf => ?_)
    refine z_iload_n C dX7_mark_5 1 rfl rfl ?_
    refine z_iload_n C dX7_mark_6 2 rfl rfl ?_
    refine z_iload_n C dX7_mark_7 3 rfl rfl ?_
    obtain ⟨x31, g30, hf⟩ := zbind hf
    refine z_callS (kc' := 0) (ks' := 0) C (MX7_isMark (xl X) (xD X) (xT X) (xlo X) al hi g30) cw_X7_190 ys_X7_isMark dX7_mark_8 rfl (by decide) ⟨rfl, rfl⟩ (Nat.le_of_ble_eq_true rfl) (st := [.ref a0]) rfl ?_
    refine z_if_ne (tgt := 18) C dX7_mark_11 (by decide) hf (fun hf => ?_) (fun hf => ?_)
    · refine z_iload C dX7_mark_18 4 rfl ?_
      refine z_i2l C dX7_mark_20 ?_
      refine z_lconst C (v := 0) dX7_mark_21 (by decide) ?_
      refine z_ldc2 C (v := 7) mw_1190 dX7_mark_22 ?_
      obtain ⟨x33, g32, hf⟩ := zbind hf
      refine z_callS (kc' := 0) (ks' := 0) C (MX7_in (xl X) (xD X) (xT X) (xlo X) al hi g32) cw_X7_58 ys_X7_in dX7_mark_25 rfl (by decide) ⟨rfl, rfl⟩ (Nat.le_of_ble_eq_true rfl) (st := [.ref a0]) rfl ?_
      refine z_if_ne (tgt := 35) C dX7_mark_28 (by decide) hf (fun hf => ?_) (fun hf => ?_)
      · refine z_iconst C (v := 0) dX7_mark_35 (by decide) ?_
        exact kJ3 _ _ hf
      · refine z_iconst C (v := 2) dX7_mark_31 (by decide) ?_
        refine z_goto (tgt := 36) C dX7_mark_32 (by decide) ?_
        exact kJ3 _ _ hf
    · refine z_iconst C (v := 1) dX7_mark_14 (by decide) ?_
      refine z_goto (tgt := 36) C dX7_mark_15 (by decide) ?_
      exact kJ3 _ _ hf
theorem MX7_mark (l : Launch) (D : va_G) (T : zT) (lo : Nat) (al : Bool) (hi : Nat) {h : zH} {a0 : Nat} {p0 : Int32} {p1 : Int32} {p2 : Int32} {p3 : Int32} {v9 : Int32} {h9 : zH} (hf : FX7_mark T a0 p0 p1 p2 p3 h = some (v9, h9)) : zM l yX7_mark (.code yX7_mark cX7_mark 6 (some .int) :: TW) ({ frames := 4, cells := 0, slots := 0, locals := 92 } : Room) D T lo al [.ref a0, .int p0, .int p1, .int p2, .int p3] hi h (some (.int v9), hi, h9) :=
  z_enter (own := RX7) (nm := "mark") (lv := [(0, .ref a0), (1, .int p0), (2, .int p1), (3, .int p2), (4, .int p3)]) (by decide +kernel) rfl rfl (Nat.le_of_ble_eq_true rfl) rfl (fun _ _ _ _ _ _ _ _ C => BX7_mark C hf)
theorem OX7_mark {T : zT} {h : zH} {a0 : Nat} {p0 : Int32} {p1 : Int32} {p2 : Int32} {p3 : Int32} {r9 : (Int32 × zH)} (hf : FX7_mark T a0 p0 p1 p2 p3 h = some r9) : ∃ fs, h a0 = some (.inr (7, fs)) := by
  obtain ⟨_, h1, _⟩ := zbind hf
  exact zo_obj h1
theorem dX7_isWord_0 : decode cX7_isWord 0 = .ok (.iload_n 1, 1) := by decide +kernel
theorem dX7_isWord_1 : decode cX7_isWord 1 = .ok (.invokestatic 182, 3) := by decide +kernel
theorem dX7_isWord_4 : decode cX7_isWord 4 = .ok (.ifCond .eq 24, 3) := by decide +kernel
theorem dX7_isWord_7 : decode cX7_isWord 7 = .ok (.iload_n 2, 1) := by decide +kernel
theorem dX7_isWord_8 : decode cX7_isWord 8 = .ok (.i2l, 1) := by decide +kernel
theorem dX7_isWord_9 : decode cX7_isWord 9 = .ok (.lconst 0, 1) := by decide +kernel
theorem dX7_isWord_10 : decode cX7_isWord 10 = .ok (.aload_n 0, 1) := by decide +kernel
theorem dX7_isWord_11 : decode cX7_isWord 11 = .ok (.iload_n 1, 1) := by decide +kernel
theorem dX7_isWord_12 : decode cX7_isWord 12 = .ok (.invokevirtual 187, 3) := by decide +kernel
theorem dX7_isWord_15 : decode cX7_isWord 15 = .ok (.iconst 1, 1) := by decide +kernel
theorem dX7_isWord_16 : decode cX7_isWord 16 = .ok (.isub, 1) := by decide +kernel
theorem dX7_isWord_17 : decode cX7_isWord 17 = .ok (.i2l, 1) := by decide +kernel
theorem dX7_isWord_18 : decode cX7_isWord 18 = .ok (.invokestatic 58, 3) := by decide +kernel
theorem dX7_isWord_21 : decode cX7_isWord 21 = .ok (.ifCond .eq 7, 3) := by decide +kernel
theorem dX7_isWord_24 : decode cX7_isWord 24 = .ok (.iconst 1, 1) := by decide +kernel
theorem dX7_isWord_25 : decode cX7_isWord 25 = .ok (.goto 4, 3) := by decide +kernel
theorem dX7_isWord_28 : decode cX7_isWord 28 = .ok (.iconst 0, 1) := by decide +kernel
theorem dX7_isWord_29 : decode cX7_isWord 29 = .ok (.ireturn, 1) := by decide +kernel
def FX7_isWord (T : zT) (a0 : Nat) (p0 : Int32) (p1 : Int32) (h : zH) : Option (Int32 × zH) := (zo h a0 7).bind fun _ => zJ (fun (x1 : Int32) (h2 : zH) => if x1 = 0 ∨ x1 = 1 then some (x1, h2) else none) (fun J3 => zJ (fun (h4 : zH) => J3 0 h4) (fun J5 => (FX7_isLetter T p0 h).bind fun x7 => if x7 = 0 then (J5 h) else (zb2 (FX7_layNow T a0 p0 h) fun x9 h10 => (FX7_in T p1.toInt64 (0 : Int64) ((x9 - 1).toInt64) h10).bind fun x12 => if x12 = 0 then (J5 h10) else (J3 1 h10))))
set_option maxHeartbeats 4000000 in
set_option maxRecDepth 100000 in
theorem BX7_isWord {X : zX} (C : zC X cX7_isWord 3 RX7 "isWord" (some .boolean) 7 170) {al : Bool} {hi : Nat} {h : zH} {a0 : Nat} {p0 : Int32} {p1 : Int32} {r9 : (Int32 × zH)} (hf : FX7_isWord (xT X) a0 p0 p1 h = some r9) : zW X 3 (zZ X al (some (.int r9.1), hi, r9.2)) 0 0 al hi h 0 [(0, .ref a0), (1, .int p0), (2, .int p1)] [] := by
  unfold FX7_isWord at hf
  obtain ⟨_, _, hf⟩ := zbind hf
  refine z_join (P := fun J => ∀ (x1 : Int32) (h2 : zH), J x1 h2 = some r9 → zW X 3 (zZ X al (some (.int r9.1), hi, r9.2)) 0 0 al hi h2 29 [] [.int x1]) hf ?_ ?_
  · intro x1 h2 hf
    refine z_ite hf (fun c hf => ?_) (fun c hf => nomatch hf)
    exact z_zreturn C dX7_isWord_29 c (by cases hf; rfl)
  · intro J3 kJ3 hf
    refine z_join (P := fun J => ∀ (h4 : zH), J h4 = some r9 → zW X 3 (zZ X al (some (.int r9.1), hi, r9.2)) 0 0 al hi h4 28 [] []) hf ?_ ?_
    · intro h4 hf
      refine z_iconst C (v := 0) dX7_isWord_28 (by decide) ?_
      exact kJ3 _ _ hf
    · intro J5 kJ5 hf
      refine z_iload_n C dX7_isWord_0 1 rfl rfl ?_
      obtain ⟨x7, g6, hf⟩ := zbind hf
      refine z_callS (kc' := 0) (ks' := 0) C (MX7_isLetter (xl X) (xD X) (xT X) (xlo X) al hi g6) cw_X7_182 ys_X7_isLetter dX7_isWord_1 rfl (by decide) ⟨rfl, rfl⟩ (Nat.le_of_ble_eq_true rfl) (st := []) rfl ?_
      refine z_if_eq (tgt := 28) C dX7_isWord_4 (by decide) hf (fun hf => ?_) (fun hf => ?_)
      · refine z_sub [] rfl ?_
        exact kJ5 _ hf
      · refine z_iload_n C dX7_isWord_7 2 rfl rfl ?_
        refine z_i2l C dX7_isWord_8 ?_
        refine z_lconst C (v := 0) dX7_isWord_9 (by decide) ?_
        refine z_aload_n C dX7_isWord_10 0 rfl rfl ?_
        refine z_iload_n C dX7_isWord_11 1 rfl rfl ?_
        obtain ⟨x9, h10, g8, hf⟩ := zbind2 hf
        refine z_callV (kc' := 0) (ks' := 0) C (MX7_layNow (xl X) (xD X) (xT X) (xlo X) al hi g8) (OX7_layNow g8) rfl cw_X7_187 yv_X7_layNow dX7_isWord_12 rfl (by decide) ⟨rfl, rfl⟩ (Nat.le_of_ble_eq_true rfl) (st := [.long (0 : Int64), .long p1.toInt64]) rfl ?_
        refine z_iconst C (v := 1) dX7_isWord_15 (by decide) ?_
        refine z_isub C dX7_isWord_16 ?_
        refine z_i2l C dX7_isWord_17 ?_
        obtain ⟨x12, g11, hf⟩ := zbind hf
        refine z_callS (kc' := 0) (ks' := 0) C (MX7_in (xl X) (xD X) (xT X) (xlo X) al hi g11) cw_X7_58 ys_X7_in dX7_isWord_18 rfl (by decide) ⟨rfl, rfl⟩ (Nat.le_of_ble_eq_true rfl) (st := []) rfl ?_
        refine z_if_eq (tgt := 28) C dX7_isWord_21 (by decide) hf (fun hf => ?_) (fun hf => ?_)
        · refine z_sub [] rfl ?_
          exact kJ5 _ hf
        · refine z_iconst C (v := 1) dX7_isWord_24 (by decide) ?_
          refine z_goto (tgt := 29) C dX7_isWord_25 (by decide) ?_
          refine z_sub [] rfl ?_
          exact kJ3 _ _ hf
theorem MX7_isWord (l : Launch) (D : va_G) (T : zT) (lo : Nat) (al : Bool) (hi : Nat) {h : zH} {a0 : Nat} {p0 : Int32} {p1 : Int32} {v9 : Int32} {h9 : zH} (hf : FX7_isWord T a0 p0 p1 h = some (v9, h9)) : zM l yX7_isWord (.code yX7_isWord cX7_isWord 3 (some .boolean) :: TW) ({ frames := 7, cells := 0, slots := 0, locals := 170 } : Room) D T lo al [.ref a0, .int p0, .int p1] hi h (some (.int v9), hi, h9) :=
  z_enter (own := RX7) (nm := "isWord") (lv := [(0, .ref a0), (1, .int p0), (2, .int p1)]) (by decide +kernel) rfl rfl (Nat.le_of_ble_eq_true rfl) rfl (fun _ _ _ _ _ _ _ _ C => BX7_isWord C hf)
theorem OX7_isWord {T : zT} {h : zH} {a0 : Nat} {p0 : Int32} {p1 : Int32} {r9 : (Int32 × zH)} (hf : FX7_isWord T a0 p0 p1 h = some r9) : ∃ fs, h a0 = some (.inr (7, fs)) := by
  obtain ⟨_, h1, _⟩ := zbind hf
  exact zo_obj h1
theorem dX7_wordLength_0 : decode cX7_wordLength 0 = .ok (.aload_n 0, 1) := by decide +kernel
theorem dX7_wordLength_1 : decode cX7_wordLength 1 = .ok (.aload_n 0, 1) := by decide +kernel
theorem dX7_wordLength_2 : decode cX7_wordLength 2 = .ok (.iload_n 1, 1) := by decide +kernel
theorem dX7_wordLength_3 : decode cX7_wordLength 3 = .ok (.iload_n 2, 1) := by decide +kernel
theorem dX7_wordLength_4 : decode cX7_wordLength 4 = .ok (.invokevirtual 196, 3) := by decide +kernel
theorem dX7_wordLength_7 : decode cX7_wordLength 7 = .ok (.ifCond .eq 7, 3) := by decide +kernel
theorem dX7_wordLength_10 : decode cX7_wordLength 10 = .ok (.iconst 0, 1) := by decide +kernel
theorem dX7_wordLength_11 : decode cX7_wordLength 11 = .ok (.goto 4, 3) := by decide +kernel
theorem dX7_wordLength_14 : decode cX7_wordLength 14 = .ok (.iconst 1, 1) := by decide +kernel
theorem dX7_wordLength_15 : decode cX7_wordLength 15 = .ok (.invokevirtual 120, 3) := by decide +kernel
theorem dX7_wordLength_18 : decode cX7_wordLength 18 = .ok (.ifCond .eq 7, 3) := by decide +kernel
theorem dX7_wordLength_21 : decode cX7_wordLength 21 = .ok (.iconst 0, 1) := by decide +kernel
theorem dX7_wordLength_22 : decode cX7_wordLength 22 = .ok (.goto 18, 3) := by decide +kernel
theorem dX7_wordLength_25 : decode cX7_wordLength 25 = .ok (.aload_n 0, 1) := by decide +kernel
theorem dX7_wordLength_26 : decode cX7_wordLength 26 = .ok (.getfield 38, 3) := by decide +kernel
theorem dX7_wordLength_29 : decode cX7_wordLength 29 = .ok (.iload_n 2, 1) := by decide +kernel
theorem dX7_wordLength_30 : decode cX7_wordLength 30 = .ok (.iconst 1, 1) := by decide +kernel
theorem dX7_wordLength_31 : decode cX7_wordLength 31 = .ok (.iadd, 1) := by decide +kernel
theorem dX7_wordLength_32 : decode cX7_wordLength 32 = .ok (.iaload, 1) := by decide +kernel
theorem dX7_wordLength_33 : decode cX7_wordLength 33 = .ok (.aload_n 0, 1) := by decide +kernel
theorem dX7_wordLength_34 : decode cX7_wordLength 34 = .ok (.getfield 38, 3) := by decide +kernel
theorem dX7_wordLength_37 : decode cX7_wordLength 37 = .ok (.iload_n 2, 1) := by decide +kernel
theorem dX7_wordLength_38 : decode cX7_wordLength 38 = .ok (.iaload, 1) := by decide +kernel
theorem dX7_wordLength_39 : decode cX7_wordLength 39 = .ok (.isub, 1) := by decide +kernel
theorem dX7_wordLength_40 : decode cX7_wordLength 40 = .ok (.ireturn, 1) := by decide +kernel
def FX7_wordLength (T : zT) (a0 : Nat) (p0 : Int32) (p1 : Int32) (h : zH) : Option (Int32 × zH) := (zo h a0 7).bind fun _ => zJ (fun (x1 : Int32) (x2 : Nat) (h3 : zH) => zJ (fun (x5 : Int32) (h6 : zH) => some (x5, h6)) (fun J7 => zb2 (FX7_refused T x2 x1 h3) fun x9 h10 => if x9 = 0 then ((zgr h10 a0 7 13).bind fun x11 => (zai T h10 x11 (p1 + 1)).bind fun x12 => (zgr h10 a0 7 13).bind fun x13 => (zai T h10 x13 p1).bind fun x14 => J7 (x12 - x14) h10) else (J7 0 h10))) (fun J4 => zb2 (FX7_isWord T a0 p0 p1 h) fun x16 h17 => if x16 = 0 then (J4 1 a0 h17) else (J4 0 a0 h17))
set_option maxHeartbeats 4000000 in
set_option maxRecDepth 100000 in
theorem BX7_wordLength {X : zX} (C : zC X cX7_wordLength 3 RX7 "wordLength" (some .int) 8 192) {al : Bool} {hi : Nat} {h : zH} {a0 : Nat} {p0 : Int32} {p1 : Int32} {r9 : (Int32 × zH)} (hf : FX7_wordLength (xT X) a0 p0 p1 h = some r9) : zW X 3 (zZ X al (some (.int r9.1), hi, r9.2)) 0 0 al hi h 0 [(0, .ref a0), (1, .int p0), (2, .int p1)] [] := by
  unfold FX7_wordLength at hf
  obtain ⟨_, _, hf⟩ := zbind hf
  refine z_join (P := fun J => ∀ (x1 : Int32) (x2 : Nat) (h3 : zH), J x1 x2 h3 = some r9 → zW X 3 (zZ X al (some (.int r9.1), hi, r9.2)) 0 0 al hi h3 15 [(0, .ref a0), (2, .int p1)] [.int x1, .ref x2]) hf ?_ ?_
  · intro x1 x2 h3 hf
    refine z_join (P := fun J => ∀ (x5 : Int32) (h6 : zH), J x5 h6 = some r9 → zW X 3 (zZ X al (some (.int r9.1), hi, r9.2)) 0 0 al hi h6 40 [] [.int x5]) hf ?_ ?_
    · intro x5 h6 hf
      exact z_ireturn C dX7_wordLength_40 (by cases hf; rfl)
    · intro J7 kJ7 hf
      obtain ⟨x9, h10, g8, hf⟩ := zbind2 hf
      refine z_callV (kc' := 0) (ks' := 0) C (MX7_refused (xl X) (xD X) (xT X) (xlo X) al hi g8) (OX7_refused g8) rfl cw_X7_120 yv_X7_refused dX7_wordLength_15 rfl (by decide) ⟨rfl, rfl⟩ (Nat.le_of_ble_eq_true rfl) (st := []) rfl ?_
      refine z_if_eq (tgt := 25) C dX7_wordLength_18 (by decide) hf (fun hf => ?_) (fun hf => ?_)
      · refine z_aload_n C dX7_wordLength_25 0 rfl rfl ?_
        refine z_getR C fl_X7_38 dX7_wordLength_26 hf (fun x11 hf => ?_)
        refine z_iload_n C dX7_wordLength_29 1 rfl rfl ?_
        refine z_iconst C (v := 1) dX7_wordLength_30 (by decide) ?_
        refine z_iadd C dX7_wordLength_31 ?_
        refine z_iaload C dX7_wordLength_32 hf (fun x12 hf => ?_)
        refine z_aload_n C dX7_wordLength_33 0 rfl rfl ?_
        refine z_getR C fl_X7_38 dX7_wordLength_34 hf (fun x13 hf => ?_)
        refine z_iload_n C dX7_wordLength_37 1 rfl rfl ?_
        refine z_iaload C dX7_wordLength_38 hf (fun x14 hf => ?_)
        refine z_isub C dX7_wordLength_39 ?_
        refine z_sub [] rfl ?_
        exact kJ7 _ _ hf
      · refine z_iconst C (v := 0) dX7_wordLength_21 (by decide) ?_
        refine z_goto (tgt := 40) C dX7_wordLength_22 (by decide) ?_
        refine z_sub [] rfl ?_
        exact kJ7 _ _ hf
  · intro J4 kJ4 hf
    refine z_aload_n C dX7_wordLength_0 0 rfl rfl ?_
    refine z_aload_n C dX7_wordLength_1 0 rfl rfl ?_
    refine z_iload_n C dX7_wordLength_2 1 rfl rfl ?_
    refine z_iload_n C dX7_wordLength_3 2 rfl rfl ?_
    obtain ⟨x16, h17, g15, hf⟩ := zbind2 hf
    refine z_callV (kc' := 0) (ks' := 0) C (MX7_isWord (xl X) (xD X) (xT X) (xlo X) al hi g15) (OX7_isWord g15) rfl cw_X7_196 yv_X7_isWord dX7_wordLength_4 rfl (by decide) ⟨rfl, rfl⟩ (Nat.le_of_ble_eq_true rfl) (st := [.ref a0]) rfl ?_
    refine z_if_eq (tgt := 14) C dX7_wordLength_7 (by decide) hf (fun hf => ?_) (fun hf => ?_)
    · refine z_iconst C (v := 1) dX7_wordLength_14 (by decide) ?_
      refine z_sub [0, 2] rfl ?_
      exact kJ4 _ _ _ hf
    · refine z_iconst C (v := 0) dX7_wordLength_10 (by decide) ?_
      refine z_goto (tgt := 15) C dX7_wordLength_11 (by decide) ?_
      refine z_sub [0, 2] rfl ?_
      exact kJ4 _ _ _ hf
theorem MX7_wordLength (l : Launch) (D : va_G) (T : zT) (lo : Nat) (al : Bool) (hi : Nat) {h : zH} {a0 : Nat} {p0 : Int32} {p1 : Int32} {v9 : Int32} {h9 : zH} (hf : FX7_wordLength T a0 p0 p1 h = some (v9, h9)) : zM l yX7_wordLength (.code yX7_wordLength cX7_wordLength 3 (some .int) :: TW) ({ frames := 8, cells := 0, slots := 0, locals := 192 } : Room) D T lo al [.ref a0, .int p0, .int p1] hi h (some (.int v9), hi, h9) :=
  z_enter (own := RX7) (nm := "wordLength") (lv := [(0, .ref a0), (1, .int p0), (2, .int p1)]) (by decide +kernel) rfl rfl (Nat.le_of_ble_eq_true rfl) rfl (fun _ _ _ _ _ _ _ _ C => BX7_wordLength C hf)
theorem OX7_wordLength {T : zT} {h : zH} {a0 : Nat} {p0 : Int32} {p1 : Int32} {r9 : (Int32 × zH)} (hf : FX7_wordLength T a0 p0 p1 h = some r9) : ∃ fs, h a0 = some (.inr (7, fs)) := by
  obtain ⟨_, h1, _⟩ := zbind hf
  exact zo_obj h1
theorem dX7_sign_0 : decode cX7_sign 0 = .ok (.aload_n 0, 1) := by decide +kernel
theorem dX7_sign_1 : decode cX7_sign 1 = .ok (.aload_n 0, 1) := by decide +kernel
theorem dX7_sign_2 : decode cX7_sign 2 = .ok (.iload_n 1, 1) := by decide +kernel
theorem dX7_sign_3 : decode cX7_sign 3 = .ok (.iload_n 2, 1) := by decide +kernel
theorem dX7_sign_4 : decode cX7_sign 4 = .ok (.invokevirtual 196, 3) := by decide +kernel
theorem dX7_sign_7 : decode cX7_sign 7 = .ok (.ifCond .ne 7, 3) := by decide +kernel
theorem dX7_sign_10 : decode cX7_sign 10 = .ok (.iconst 1, 1) := by decide +kernel
theorem dX7_sign_11 : decode cX7_sign 11 = .ok (.goto 12, 3) := by decide +kernel
theorem dX7_sign_14 : decode cX7_sign 14 = .ok (.iload_n 3, 1) := by decide +kernel
theorem dX7_sign_15 : decode cX7_sign 15 = .ok (.ifCond .ge 7, 3) := by decide +kernel
theorem dX7_sign_18 : decode cX7_sign 18 = .ok (.iconst 2, 1) := by decide +kernel
theorem dX7_sign_19 : decode cX7_sign 19 = .ok (.goto 4, 3) := by decide +kernel
theorem dX7_sign_22 : decode cX7_sign 22 = .ok (.iconst 0, 1) := by decide +kernel
theorem dX7_sign_23 : decode cX7_sign 23 = .ok (.invokevirtual 120, 3) := by decide +kernel
theorem dX7_sign_26 : decode cX7_sign 26 = .ok (.ifCond .eq 5, 3) := by decide +kernel
theorem dX7_sign_29 : decode cX7_sign 29 = .ok (.iconst 0, 1) := by decide +kernel
theorem dX7_sign_30 : decode cX7_sign 30 = .ok (.ireturn, 1) := by decide +kernel
theorem dX7_sign_31 : decode cX7_sign 31 = .ok (.iload_n 3, 1) := by decide +kernel
theorem dX7_sign_32 : decode cX7_sign 32 = .ok (.aload_n 0, 1) := by decide +kernel
theorem dX7_sign_33 : decode cX7_sign 33 = .ok (.getfield 38, 3) := by decide +kernel
theorem dX7_sign_36 : decode cX7_sign 36 = .ok (.iload_n 2, 1) := by decide +kernel
theorem dX7_sign_37 : decode cX7_sign 37 = .ok (.iconst 1, 1) := by decide +kernel
theorem dX7_sign_38 : decode cX7_sign 38 = .ok (.iadd, 1) := by decide +kernel
theorem dX7_sign_39 : decode cX7_sign 39 = .ok (.iaload, 1) := by decide +kernel
theorem dX7_sign_40 : decode cX7_sign 40 = .ok (.aload_n 0, 1) := by decide +kernel
theorem dX7_sign_41 : decode cX7_sign 41 = .ok (.getfield 38, 3) := by decide +kernel
theorem dX7_sign_44 : decode cX7_sign 44 = .ok (.iload_n 2, 1) := by decide +kernel
theorem dX7_sign_45 : decode cX7_sign 45 = .ok (.iaload, 1) := by decide +kernel
theorem dX7_sign_46 : decode cX7_sign 46 = .ok (.isub, 1) := by decide +kernel
theorem dX7_sign_47 : decode cX7_sign 47 = .ok (.if_icmp .ge 19, 3) := by decide +kernel
theorem dX7_sign_50 : decode cX7_sign 50 = .ok (.aload_n 0, 1) := by decide +kernel
theorem dX7_sign_51 : decode cX7_sign 51 = .ok (.getfield 41, 3) := by decide +kernel
theorem dX7_sign_54 : decode cX7_sign 54 = .ok (.aload_n 0, 1) := by decide +kernel
theorem dX7_sign_55 : decode cX7_sign 55 = .ok (.getfield 38, 3) := by decide +kernel
theorem dX7_sign_58 : decode cX7_sign 58 = .ok (.iload_n 2, 1) := by decide +kernel
theorem dX7_sign_59 : decode cX7_sign 59 = .ok (.iaload, 1) := by decide +kernel
theorem dX7_sign_60 : decode cX7_sign 60 = .ok (.iload_n 3, 1) := by decide +kernel
theorem dX7_sign_61 : decode cX7_sign 61 = .ok (.iadd, 1) := by decide +kernel
theorem dX7_sign_62 : decode cX7_sign 62 = .ok (.iaload, 1) := by decide +kernel
theorem dX7_sign_63 : decode cX7_sign 63 = .ok (.goto 5, 3) := by decide +kernel
theorem dX7_sign_66 : decode cX7_sign 66 = .ok (.bipush (-9), 2) := by decide +kernel
theorem dX7_sign_68 : decode cX7_sign 68 = .ok (.ireturn, 1) := by decide +kernel
def FX7_sign (T : zT) (a0 : Nat) (p0 : Int32) (p1 : Int32) (p2 : Int32) (h : zH) : Option (Int32 × zH) := (zo h a0 7).bind fun _ => zJ (fun (x1 : Int32) (x2 : Nat) (h3 : zH) => zb2 (FX7_refused T x2 x1 h3) fun x6 h7 => if x6 = 0 then (zJ (fun (x8 : Int32) => some (x8, h7)) (fun J9 => (zgr h7 a0 7 13).bind fun x10 => (zai T h7 x10 (p1 + 1)).bind fun x11 => (zgr h7 a0 7 13).bind fun x12 => (zai T h7 x12 p1).bind fun x13 => if (x11 - x13) ≤ p2 then (J9 (-9 : Int32)) else ((zgr h7 a0 7 14).bind fun x14 => (zgr h7 a0 7 13).bind fun x15 => (zai T h7 x15 p1).bind fun x16 => (zai T h7 x14 (x16 + p2)).bind fun x17 => J9 x17))) else (some (0, h7))) (fun J4 => zb2 (FX7_isWord T a0 p0 p1 h) fun x19 h20 => if x19 = 0 then (J4 1 a0 h20) else (if 0 ≤ p2 then (J4 0 a0 h20) else (J4 2 a0 h20)))
set_option maxHeartbeats 4000000 in
set_option maxRecDepth 100000 in
theorem BX7_sign {X : zX} (C : zC X cX7_sign 4 RX7 "sign" (some .int) 8 192) {al : Bool} {hi : Nat} {h : zH} {a0 : Nat} {p0 : Int32} {p1 : Int32} {p2 : Int32} {r9 : (Int32 × zH)} (hf : FX7_sign (xT X) a0 p0 p1 p2 h = some r9) : zW X 4 (zZ X al (some (.int r9.1), hi, r9.2)) 0 0 al hi h 0 [(0, .ref a0), (1, .int p0), (2, .int p1), (3, .int p2)] [] := by
  unfold FX7_sign at hf
  obtain ⟨_, _, hf⟩ := zbind hf
  refine z_join (P := fun J => ∀ (x1 : Int32) (x2 : Nat) (h3 : zH), J x1 x2 h3 = some r9 → zW X 4 (zZ X al (some (.int r9.1), hi, r9.2)) 0 0 al hi h3 23 [(0, .ref a0), (2, .int p1), (3, .int p2)] [.int x1, .ref x2]) hf ?_ ?_
  · intro x1 x2 h3 hf
    obtain ⟨x6, h7, g5, hf⟩ := zbind2 hf
    refine z_callV (kc' := 0) (ks' := 0) C (MX7_refused (xl X) (xD X) (xT X) (xlo X) al hi g5) (OX7_refused g5) rfl cw_X7_120 yv_X7_refused dX7_sign_23 rfl (by decide) ⟨rfl, rfl⟩ (Nat.le_of_ble_eq_true rfl) (st := []) rfl ?_
    refine z_if_eq (tgt := 31) C dX7_sign_26 (by decide) hf (fun hf => ?_) (fun hf => ?_)
    · refine z_join (P := fun J => ∀ (x8 : Int32), J x8 = some r9 → zW X 4 (zZ X al (some (.int r9.1), hi, r9.2)) 0 0 al hi h7 68 [] [.int x8]) hf ?_ ?_
      · intro x8 hf
        exact z_ireturn C dX7_sign_68 (by cases hf; rfl)
      · intro J9 kJ9 hf
        refine z_iload_n C dX7_sign_31 2 rfl rfl ?_
        refine z_aload_n C dX7_sign_32 0 rfl rfl ?_
        refine z_getR C fl_X7_38 dX7_sign_33 hf (fun x10 hf => ?_)
        refine z_iload_n C dX7_sign_36 1 rfl rfl ?_
        refine z_iconst C (v := 1) dX7_sign_37 (by decide) ?_
        refine z_iadd C dX7_sign_38 ?_
        refine z_iaload C dX7_sign_39 hf (fun x11 hf => ?_)
        refine z_aload_n C dX7_sign_40 0 rfl rfl ?_
        refine z_getR C fl_X7_38 dX7_sign_41 hf (fun x12 hf => ?_)
        refine z_iload_n C dX7_sign_44 1 rfl rfl ?_
        refine z_iaload C dX7_sign_45 hf (fun x13 hf => ?_)
        refine z_isub C dX7_sign_46 ?_
        refine z_icmp_ge (tgt := 66) C dX7_sign_47 (by decide) hf (fun hf => ?_) (fun hf => ?_)
        · refine z_bipush C (v := (-9 : Int32)) dX7_sign_66 (by decide) ?_
          refine z_sub [] rfl ?_
          exact kJ9 _ hf
        · refine z_aload_n C dX7_sign_50 0 rfl rfl ?_
          refine z_getR C fl_X7_41 dX7_sign_51 hf (fun x14 hf => ?_)
          refine z_aload_n C dX7_sign_54 0 rfl rfl ?_
          refine z_getR C fl_X7_38 dX7_sign_55 hf (fun x15 hf => ?_)
          refine z_iload_n C dX7_sign_58 1 rfl rfl ?_
          refine z_iaload C dX7_sign_59 hf (fun x16 hf => ?_)
          refine z_iload_n C dX7_sign_60 2 rfl rfl ?_
          refine z_iadd C dX7_sign_61 ?_
          refine z_iaload C dX7_sign_62 hf (fun x17 hf => ?_)
          refine z_goto (tgt := 68) C dX7_sign_63 (by decide) ?_
          refine z_sub [] rfl ?_
          exact kJ9 _ hf
    · refine z_iconst C (v := 0) dX7_sign_29 (by decide) ?_
      exact z_ireturn C dX7_sign_30 (by cases hf; rfl)
  · intro J4 kJ4 hf
    refine z_aload_n C dX7_sign_0 0 rfl rfl ?_
    refine z_aload_n C dX7_sign_1 0 rfl rfl ?_
    refine z_iload_n C dX7_sign_2 1 rfl rfl ?_
    refine z_iload_n C dX7_sign_3 2 rfl rfl ?_
    obtain ⟨x19, h20, g18, hf⟩ := zbind2 hf
    refine z_callV (kc' := 0) (ks' := 0) C (MX7_isWord (xl X) (xD X) (xT X) (xlo X) al hi g18) (OX7_isWord g18) rfl cw_X7_196 yv_X7_isWord dX7_sign_4 rfl (by decide) ⟨rfl, rfl⟩ (Nat.le_of_ble_eq_true rfl) (st := [.ref a0]) rfl ?_
    refine z_if_ne (tgt := 14) C dX7_sign_7 (by decide) hf (fun hf => ?_) (fun hf => ?_)
    · refine z_iload_n C dX7_sign_14 3 rfl rfl ?_
      refine z_if_ge (tgt := 22) C dX7_sign_15 (by decide) hf (fun hf => ?_) (fun hf => ?_)
      · refine z_iconst C (v := 0) dX7_sign_22 (by decide) ?_
        refine z_sub [0, 2, 3] rfl ?_
        exact kJ4 _ _ _ hf
      · refine z_iconst C (v := 2) dX7_sign_18 (by decide) ?_
        refine z_goto (tgt := 23) C dX7_sign_19 (by decide) ?_
        refine z_sub [0, 2, 3] rfl ?_
        exact kJ4 _ _ _ hf
    · refine z_iconst C (v := 1) dX7_sign_10 (by decide) ?_
      refine z_goto (tgt := 23) C dX7_sign_11 (by decide) ?_
      refine z_sub [0, 2, 3] rfl ?_
      exact kJ4 _ _ _ hf
theorem MX7_sign (l : Launch) (D : va_G) (T : zT) (lo : Nat) (al : Bool) (hi : Nat) {h : zH} {a0 : Nat} {p0 : Int32} {p1 : Int32} {p2 : Int32} {v9 : Int32} {h9 : zH} (hf : FX7_sign T a0 p0 p1 p2 h = some (v9, h9)) : zM l yX7_sign (.code yX7_sign cX7_sign 4 (some .int) :: TW) ({ frames := 8, cells := 0, slots := 0, locals := 192 } : Room) D T lo al [.ref a0, .int p0, .int p1, .int p2] hi h (some (.int v9), hi, h9) :=
  z_enter (own := RX7) (nm := "sign") (lv := [(0, .ref a0), (1, .int p0), (2, .int p1), (3, .int p2)]) (by decide +kernel) rfl rfl (Nat.le_of_ble_eq_true rfl) rfl (fun _ _ _ _ _ _ _ _ C => BX7_sign C hf)
theorem OX7_sign {T : zT} {h : zH} {a0 : Nat} {p0 : Int32} {p1 : Int32} {p2 : Int32} {r9 : (Int32 × zH)} (hf : FX7_sign T a0 p0 p1 p2 h = some r9) : ∃ fs, h a0 = some (.inr (7, fs)) := by
  obtain ⟨_, h1, _⟩ := zbind hf
  exact zo_obj h1
theorem dX7_wordAt_0 : decode cX7_wordAt 0 = .ok (.aload_n 0, 1) := by decide +kernel
theorem dX7_wordAt_1 : decode cX7_wordAt 1 = .ok (.iload_n 1, 1) := by decide +kernel
theorem dX7_wordAt_2 : decode cX7_wordAt 2 = .ok (.invokestatic 182, 3) := by decide +kernel
theorem dX7_wordAt_5 : decode cX7_wordAt 5 = .ok (.ifCond .eq 19, 3) := by decide +kernel
theorem dX7_wordAt_8 : decode cX7_wordAt 8 = .ok (.aload_n 0, 1) := by decide +kernel
theorem dX7_wordAt_9 : decode cX7_wordAt 9 = .ok (.getfield 16, 3) := by decide +kernel
theorem dX7_wordAt_12 : decode cX7_wordAt 12 = .ok (.iload_n 2, 1) := by decide +kernel
theorem dX7_wordAt_13 : decode cX7_wordAt 13 = .ok (.iload_n 3, 1) := by decide +kernel
theorem dX7_wordAt_14 : decode cX7_wordAt 14 = .ok (.invokestatic 62, 3) := by decide +kernel
theorem dX7_wordAt_17 : decode cX7_wordAt 17 = .ok (.ifCond .eq 7, 3) := by decide +kernel
theorem dX7_wordAt_20 : decode cX7_wordAt 20 = .ok (.iconst 0, 1) := by decide +kernel
theorem dX7_wordAt_21 : decode cX7_wordAt 21 = .ok (.goto 4, 3) := by decide +kernel
theorem dX7_wordAt_24 : decode cX7_wordAt 24 = .ok (.iconst 1, 1) := by decide +kernel
theorem dX7_wordAt_25 : decode cX7_wordAt 25 = .ok (.invokevirtual 120, 3) := by decide +kernel
theorem dX7_wordAt_28 : decode cX7_wordAt 28 = .ok (.ifCond .eq 5, 3) := by decide +kernel
theorem dX7_wordAt_31 : decode cX7_wordAt 31 = .ok (.iconst 0, 1) := by decide +kernel
theorem dX7_wordAt_32 : decode cX7_wordAt 32 = .ok (.ireturn, 1) := by decide +kernel
theorem dX7_wordAt_33 : decode cX7_wordAt 33 = .ok (.aload_n 0, 1) := by decide +kernel
theorem dX7_wordAt_34 : decode cX7_wordAt 34 = .ok (.iload_n 1, 1) := by decide +kernel
theorem dX7_wordAt_35 : decode cX7_wordAt 35 = .ok (.invokevirtual 187, 3) := by decide +kernel
theorem dX7_wordAt_38 : decode cX7_wordAt 38 = .ok (.pop, 1) := by decide +kernel
theorem dX7_wordAt_39 : decode cX7_wordAt 39 = .ok (.aload_n 0, 1) := by decide +kernel
theorem dX7_wordAt_40 : decode cX7_wordAt 40 = .ok (.getfield 35, 3) := by decide +kernel
theorem dX7_wordAt_43 : decode cX7_wordAt 43 = .ok (.bipush 9, 2) := by decide +kernel
theorem dX7_wordAt_45 : decode cX7_wordAt 45 = .ok (.iload_n 3, 1) := by decide +kernel
theorem dX7_wordAt_46 : decode cX7_wordAt 46 = .ok (.imul, 1) := by decide +kernel
theorem dX7_wordAt_47 : decode cX7_wordAt 47 = .ok (.iload_n 2, 1) := by decide +kernel
theorem dX7_wordAt_48 : decode cX7_wordAt 48 = .ok (.iadd, 1) := by decide +kernel
theorem dX7_wordAt_49 : decode cX7_wordAt 49 = .ok (.iaload, 1) := by decide +kernel
theorem dX7_wordAt_50 : decode cX7_wordAt 50 = .ok (.ireturn, 1) := by decide +kernel
def FX7_wordAt (T : zT) (a0 : Nat) (p0 : Int32) (p1 : Int32) (p2 : Int32) (h : zH) : Option (Int32 × zH) := (zo h a0 7).bind fun _ => zJ (fun (x1 : Int32) (x2 : Nat) => zb2 (FX7_refused T x2 x1 h) fun x5 h6 => if x5 = 0 then (zb2 (FX7_layNow T a0 p0 h6) fun x8 h9 => (zgr h9 a0 7 12).bind fun x10 => (zai T h9 x10 ((9 * p2) + p1)).bind fun x11 => some (x11, h9)) else (some (0, h6))) (fun J3 => zJ (fun (x12 : Nat) => J3 1 x12) (fun J13 => (FX7_isLetter T p0 h).bind fun x15 => if x15 = 0 then (J13 a0) else ((zgr h a0 7 5).bind fun x16 => (FX7_isCell T x16 p1 p2 h).bind fun x18 => if x18 = 0 then (J13 a0) else (J3 0 a0))))
set_option maxHeartbeats 4000000 in
set_option maxRecDepth 100000 in
theorem BX7_wordAt {X : zX} (C : zC X cX7_wordAt 4 RX7 "wordAt" (some .int) 7 170) {al : Bool} {hi : Nat} {h : zH} {a0 : Nat} {p0 : Int32} {p1 : Int32} {p2 : Int32} {r9 : (Int32 × zH)} (hf : FX7_wordAt (xT X) a0 p0 p1 p2 h = some r9) : zW X 4 (zZ X al (some (.int r9.1), hi, r9.2)) 0 0 al hi h 0 [(0, .ref a0), (1, .int p0), (2, .int p1), (3, .int p2)] [] := by
  unfold FX7_wordAt at hf
  obtain ⟨_, _, hf⟩ := zbind hf
  refine z_join (P := fun J => ∀ (x1 : Int32) (x2 : Nat), J x1 x2 = some r9 → zW X 4 (zZ X al (some (.int r9.1), hi, r9.2)) 0 0 al hi h 25 [(0, .ref a0), (1, .int p0), (2, .int p1), (3, .int p2)] [.int x1, .ref x2]) hf ?_ ?_
  · intro x1 x2 hf
    obtain ⟨x5, h6, g4, hf⟩ := zbind2 hf
    refine z_callV (kc' := 0) (ks' := 0) C (MX7_refused (xl X) (xD X) (xT X) (xlo X) al hi g4) (OX7_refused g4) rfl cw_X7_120 yv_X7_refused dX7_wordAt_25 rfl (by decide) ⟨rfl, rfl⟩ (Nat.le_of_ble_eq_true rfl) (st := []) rfl ?_
    refine z_if_eq (tgt := 33) C dX7_wordAt_28 (by decide) hf (fun hf => ?_) (fun hf => ?_)
    · refine z_aload_n C dX7_wordAt_33 0 rfl rfl ?_
      refine z_iload_n C dX7_wordAt_34 1 rfl rfl ?_
      obtain ⟨x8, h9, g7, hf⟩ := zbind2 hf
      refine z_callV (kc' := 0) (ks' := 0) C (MX7_layNow (xl X) (xD X) (xT X) (xlo X) al hi g7) (OX7_layNow g7) rfl cw_X7_187 yv_X7_layNow dX7_wordAt_35 rfl (by decide) ⟨rfl, rfl⟩ (Nat.le_of_ble_eq_true rfl) (st := []) rfl ?_
      refine z_pop C dX7_wordAt_38 rfl ?_
      refine z_aload_n C dX7_wordAt_39 0 rfl rfl ?_
      refine z_getR C fl_X7_35 dX7_wordAt_40 hf (fun x10 hf => ?_)
      refine z_bipush C (v := 9) dX7_wordAt_43 (by decide) ?_
      refine z_iload_n C dX7_wordAt_45 3 rfl rfl ?_
      refine z_imul C dX7_wordAt_46 ?_
      refine z_iload_n C dX7_wordAt_47 2 rfl rfl ?_
      refine z_iadd C dX7_wordAt_48 ?_
      refine z_iaload C dX7_wordAt_49 hf (fun x11 hf => ?_)
      exact z_ireturn C dX7_wordAt_50 (by cases hf; rfl)
    · refine z_iconst C (v := 0) dX7_wordAt_31 (by decide) ?_
      exact z_ireturn C dX7_wordAt_32 (by cases hf; rfl)
  · intro J3 kJ3 hf
    refine z_join (P := fun J => ∀ (x12 : Nat), J x12 = some r9 → zW X 4 (zZ X al (some (.int r9.1), hi, r9.2)) 0 0 al hi h 24 [(0, .ref a0), (1, .int p0), (2, .int p1), (3, .int p2)] [.ref x12]) hf ?_ ?_
    · intro x12 hf
      refine z_iconst C (v := 1) dX7_wordAt_24 (by decide) ?_
      exact kJ3 _ _ hf
    · intro J13 kJ13 hf
      refine z_aload_n C dX7_wordAt_0 0 rfl rfl ?_
      refine z_iload_n C dX7_wordAt_1 1 rfl rfl ?_
      obtain ⟨x15, g14, hf⟩ := zbind hf
      refine z_callS (kc' := 0) (ks' := 0) C (MX7_isLetter (xl X) (xD X) (xT X) (xlo X) al hi g14) cw_X7_182 ys_X7_isLetter dX7_wordAt_2 rfl (by decide) ⟨rfl, rfl⟩ (Nat.le_of_ble_eq_true rfl) (st := [.ref a0]) rfl ?_
      refine z_if_eq (tgt := 24) C dX7_wordAt_5 (by decide) hf (fun hf => ?_) (fun hf => ?_)
      · exact kJ13 _ hf
      · refine z_aload_n C dX7_wordAt_8 0 rfl rfl ?_
        refine z_getR C fl_X7_16 dX7_wordAt_9 hf (fun x16 hf => ?_)
        refine z_iload_n C dX7_wordAt_12 2 rfl rfl ?_
        refine z_iload_n C dX7_wordAt_13 3 rfl rfl ?_
        obtain ⟨x18, g17, hf⟩ := zbind hf
        refine z_callS (kc' := 0) (ks' := 0) C (MX7_isCell (xl X) (xD X) (xT X) (xlo X) al hi g17) cw_X7_62 ys_X7_isCell dX7_wordAt_14 rfl (by decide) ⟨rfl, rfl⟩ (Nat.le_of_ble_eq_true rfl) (st := [.ref a0]) rfl ?_
        refine z_if_eq (tgt := 24) C dX7_wordAt_17 (by decide) hf (fun hf => ?_) (fun hf => ?_)
        · exact kJ13 _ hf
        · refine z_iconst C (v := 0) dX7_wordAt_20 (by decide) ?_
          refine z_goto (tgt := 25) C dX7_wordAt_21 (by decide) ?_
          exact kJ3 _ _ hf
theorem MX7_wordAt (l : Launch) (D : va_G) (T : zT) (lo : Nat) (al : Bool) (hi : Nat) {h : zH} {a0 : Nat} {p0 : Int32} {p1 : Int32} {p2 : Int32} {v9 : Int32} {h9 : zH} (hf : FX7_wordAt T a0 p0 p1 p2 h = some (v9, h9)) : zM l yX7_wordAt (.code yX7_wordAt cX7_wordAt 4 (some .int) :: TW) ({ frames := 7, cells := 0, slots := 0, locals := 170 } : Room) D T lo al [.ref a0, .int p0, .int p1, .int p2] hi h (some (.int v9), hi, h9) :=
  z_enter (own := RX7) (nm := "wordAt") (lv := [(0, .ref a0), (1, .int p0), (2, .int p1), (3, .int p2)]) (by decide +kernel) rfl rfl (Nat.le_of_ble_eq_true rfl) rfl (fun _ _ _ _ _ _ _ _ C => BX7_wordAt C hf)
theorem OX7_wordAt {T : zT} {h : zH} {a0 : Nat} {p0 : Int32} {p1 : Int32} {p2 : Int32} {r9 : (Int32 × zH)} (hf : FX7_wordAt T a0 p0 p1 p2 h = some r9) : ∃ fs, h a0 = some (.inr (7, fs)) := by
  obtain ⟨_, h1, _⟩ := zbind hf
  exact zo_obj h1
theorem dX7_note_0 : decode cX7_note 0 = .ok (.aload_n 0, 1) := by decide +kernel
theorem dX7_note_1 : decode cX7_note 1 = .ok (.getfield 168, 3) := by decide +kernel
theorem dX7_note_4 : decode cX7_note 4 = .ok (.bipush 14, 2) := by decide +kernel
theorem dX7_note_6 : decode cX7_note 6 = .ok (.if_icmp .ne 44, 3) := by decide +kernel
theorem dX7_note_9 : decode cX7_note 9 = .ok (.iconst 0, 1) := by decide +kernel
theorem dX7_note_10 : decode cX7_note 10 = .ok (.istore_n 1, 1) := by decide +kernel
theorem dX7_note_11 : decode cX7_note 11 = .ok (.iload_n 1, 1) := by decide +kernel
theorem dX7_note_12 : decode cX7_note 12 = .ok (.sipush 9607, 3) := by decide +kernel
theorem dX7_note_15 : decode cX7_note 15 = .ok (.if_icmp .ge 25, 3) := by decide +kernel
theorem dX7_note_18 : decode cX7_note 18 = .ok (.aload_n 0, 1) := by decide +kernel
theorem dX7_note_19 : decode cX7_note 19 = .ok (.getfield 25, 3) := by decide +kernel
theorem dX7_note_22 : decode cX7_note 22 = .ok (.iload_n 1, 1) := by decide +kernel
theorem dX7_note_23 : decode cX7_note 23 = .ok (.aload_n 0, 1) := by decide +kernel
theorem dX7_note_24 : decode cX7_note 24 = .ok (.getfield 25, 3) := by decide +kernel
theorem dX7_note_27 : decode cX7_note 27 = .ok (.iload_n 1, 1) := by decide +kernel
theorem dX7_note_28 : decode cX7_note 28 = .ok (.sipush 739, 3) := by decide +kernel
theorem dX7_note_31 : decode cX7_note 31 = .ok (.iadd, 1) := by decide +kernel
theorem dX7_note_32 : decode cX7_note 32 = .ok (.iaload, 1) := by decide +kernel
theorem dX7_note_33 : decode cX7_note 33 = .ok (.iastore, 1) := by decide +kernel
theorem dX7_note_34 : decode cX7_note 34 = .ok (.iinc 1 1, 3) := by decide +kernel
theorem dX7_note_37 : decode cX7_note 37 = .ok (.goto (-26), 3) := by decide +kernel
theorem dX7_note_40 : decode cX7_note 40 = .ok (.aload_n 0, 1) := by decide +kernel
theorem dX7_note_41 : decode cX7_note 41 = .ok (.dup, 1) := by decide +kernel
theorem dX7_note_42 : decode cX7_note 42 = .ok (.getfield 168, 3) := by decide +kernel
theorem dX7_note_45 : decode cX7_note 45 = .ok (.iconst 1, 1) := by decide +kernel
theorem dX7_note_46 : decode cX7_note 46 = .ok (.isub, 1) := by decide +kernel
theorem dX7_note_47 : decode cX7_note 47 = .ok (.putfield 168, 3) := by decide +kernel
theorem dX7_note_50 : decode cX7_note 50 = .ok (.aload_n 0, 1) := by decide +kernel
theorem dX7_note_51 : decode cX7_note 51 = .ok (.getfield 16, 3) := by decide +kernel
theorem dX7_note_54 : decode cX7_note 54 = .ok (.iconst 0, 1) := by decide +kernel
theorem dX7_note_55 : decode cX7_note 55 = .ok (.aload_n 0, 1) := by decide +kernel
theorem dX7_note_56 : decode cX7_note 56 = .ok (.getfield 25, 3) := by decide +kernel
theorem dX7_note_59 : decode cX7_note 59 = .ok (.sipush 739, 3) := by decide +kernel
theorem dX7_note_62 : decode cX7_note 62 = .ok (.aload_n 0, 1) := by decide +kernel
theorem dX7_note_63 : decode cX7_note 63 = .ok (.getfield 168, 3) := by decide +kernel
theorem dX7_note_66 : decode cX7_note 66 = .ok (.imul, 1) := by decide +kernel
theorem dX7_note_67 : decode cX7_note 67 = .ok (.invokestatic 107, 3) := by decide +kernel
theorem dX7_note_70 : decode cX7_note 70 = .ok (.aload_n 0, 1) := by decide +kernel
theorem dX7_note_71 : decode cX7_note 71 = .ok (.dup, 1) := by decide +kernel
theorem dX7_note_72 : decode cX7_note 72 = .ok (.getfield 168, 3) := by decide +kernel
theorem dX7_note_75 : decode cX7_note 75 = .ok (.iconst 1, 1) := by decide +kernel
theorem dX7_note_76 : decode cX7_note 76 = .ok (.iadd, 1) := by decide +kernel
theorem dX7_note_77 : decode cX7_note 77 = .ok (.putfield 168, 3) := by decide +kernel
theorem dX7_note_80 : decode cX7_note 80 = .ok (.return_, 1) := by decide +kernel
def LX7_note_11 {ρ : Type} (T : zT) (x11 : Nat) (K0 : zH → Option ρ) : Nat → Int32 → zH → Option ρ
  | 0, _, _ => none
  | k + 1, x12, h13 => if 9607 ≤ x12 then (K0 h13) else ((zgr h13 x11 7 8).bind fun x14 => (zgr h13 x11 7 8).bind fun x15 => (zai T h13 x15 (x12 + 739)).bind fun x16 => (zas T h13 x14 x12 x16).bind fun h17 => LX7_note_11 T x11 K0 k (x12 + 1) h17)
set_option maxHeartbeats 4000000 in
set_option maxRecDepth 100000 in
theorem LX7_note_11_ok {X : zX} (C : zC X cX7_note 2 RX7 "note" none 1 24) {Z : State → Prop} {al : Bool} {hi : Nat} {ρ : Type} {r9 : ρ} {x11 : Nat} {K0 : zH → Option ρ} (hK0 : ∀ (g9 : zH), K0 g9 = some r9 → zW X 2 Z 0 0 al hi g9 40 [(0, .ref x11)] []) : ∀ (k : Nat) (x12 : Int32) (h13 : zH), LX7_note_11 (xT X) x11 K0 k x12 h13 = some r9 → zW X 2 Z 0 0 al hi h13 11 [(0, .ref x11), (1, .int x12)] [] := by
  intro k
  induction k with
  | zero =>
    intro x12 h13 hf
    have hf : none = some r9 := hf
    cases hf
  | succ k ih =>
    intro x12 h13 hf
    rw [LX7_note_11.eq_2] at hf
    refine z_iload_n C dX7_note_11 1 rfl rfl ?_
    refine z_sipush C (v := 9607) dX7_note_12 (by decide) ?_
    refine z_icmp_ge (tgt := 40) C dX7_note_15 (by decide) hf (fun hf => ?_) (fun hf => ?_)
    · refine z_sub [0] rfl ?_
      exact hK0 _ hf
    · refine z_aload_n C dX7_note_18 0 rfl rfl ?_
      refine z_getR C fl_X7_25 dX7_note_19 hf (fun x14 hf => ?_)
      refine z_iload_n C dX7_note_22 1 rfl rfl ?_
      refine z_aload_n C dX7_note_23 0 rfl rfl ?_
      refine z_getR C fl_X7_25 dX7_note_24 hf (fun x15 hf => ?_)
      refine z_iload_n C dX7_note_27 1 rfl rfl ?_
      refine z_sipush C (v := 739) dX7_note_28 (by decide) ?_
      refine z_iadd C dX7_note_31 ?_
      refine z_iaload C dX7_note_32 hf (fun x16 hf => ?_)
      refine z_iastore C dX7_note_33 hf (fun h17 hf => ?_)
      refine z_iinc C dX7_note_34 (k := 1) (d := 1) rfl (by decide) (by decide) (lv' := [(1, .int (x12 + 1)), (0, .ref x11)]) rfl ?_
      refine z_goto (tgt := 11) C dX7_note_37 (by decide) ?_
      refine z_sub [1, 0] rfl ?_
      exact ih _ _ hf
def FX7_note (T : zT) (a0 : Nat) (h : zH) : Option zH := (zo h a0 7).bind fun _ => zJ (fun (h1 : zH) => (zgr h1 a0 7 5).bind fun x3 => (zgr h1 a0 7 8).bind fun x4 => (zgi h1 a0 7 9).bind fun x5 => (FX7_copyPage T x3 0 x4 (739 * x5) h1).bind fun h7 => (zgi h7 a0 7 9).bind fun x8 => (zpv h7 a0 7 9 (.int (x8 + 1))).bind fun h9 => some h9) (fun J2 => (zgi h a0 7 9).bind fun x10 => if x10 = 14 then (LX7_note_11 T a0 (fun (h18 : zH) => (zgi h18 a0 7 9).bind fun x19 => (zpv h18 a0 7 9 (.int (x19 - 1))).bind fun h20 => J2 h20) FUEL 0 h) else (J2 h))
set_option maxHeartbeats 4000000 in
set_option maxRecDepth 100000 in
theorem BX7_note {X : zX} (C : zC X cX7_note 2 RX7 "note" none 1 24) {al : Bool} {hi : Nat} {h : zH} {a0 : Nat} {r9 : zH} (hf : FX7_note (xT X) a0 h = some r9) : zW X 2 (zZ X al (none, hi, r9)) 0 0 al hi h 0 [(0, .ref a0)] [] := by
  unfold FX7_note at hf
  obtain ⟨_, _, hf⟩ := zbind hf
  refine z_join (P := fun J => ∀ (h1 : zH), J h1 = some r9 → zW X 2 (zZ X al (none, hi, r9)) 0 0 al hi h1 50 [(0, .ref a0)] []) hf ?_ ?_
  · intro h1 hf
    refine z_aload_n C dX7_note_50 0 rfl rfl ?_
    refine z_getR C fl_X7_16 dX7_note_51 hf (fun x3 hf => ?_)
    refine z_iconst C (v := 0) dX7_note_54 (by decide) ?_
    refine z_aload_n C dX7_note_55 0 rfl rfl ?_
    refine z_getR C fl_X7_25 dX7_note_56 hf (fun x4 hf => ?_)
    refine z_sipush C (v := 739) dX7_note_59 (by decide) ?_
    refine z_aload_n C dX7_note_62 0 rfl rfl ?_
    refine z_getI C fl_X7_168 dX7_note_63 hf (fun x5 hf => ?_)
    refine z_imul C dX7_note_66 ?_
    obtain ⟨h7, g6, hf⟩ := zbind hf
    refine z_callS (kc' := 0) (ks' := 0) C (MX7_copyPage (xl X) (xD X) (xT X) (xlo X) al hi g6) cw_X7_107 ys_X7_copyPage dX7_note_67 rfl (by decide) ⟨rfl, rfl⟩ (Nat.le_of_ble_eq_true rfl) (st := []) rfl ?_
    refine z_aload_n C dX7_note_70 0 rfl rfl ?_
    refine z_dup C dX7_note_71 rfl ?_
    refine z_getI C fl_X7_168 dX7_note_72 hf (fun x8 hf => ?_)
    refine z_iconst C (v := 1) dX7_note_75 (by decide) ?_
    refine z_iadd C dX7_note_76 ?_
    refine z_put C fl_X7_168 dX7_note_77 rfl rfl hf (fun h9 hf => ?_)
    exact z_vreturn C dX7_note_80 (by cases hf; rfl)
  · intro J2 kJ2 hf
    refine z_aload_n C dX7_note_0 0 rfl rfl ?_
    refine z_getI C fl_X7_168 dX7_note_1 hf (fun x10 hf => ?_)
    refine z_bipush C (v := 14) dX7_note_4 (by decide) ?_
    refine z_icmp_ne (tgt := 50) C dX7_note_6 (by decide) hf (fun hf => ?_) (fun hf => ?_)
    · exact kJ2 _ hf
    · refine z_iconst C (v := 0) dX7_note_9 (by decide) ?_
      refine z_istore_n C dX7_note_10 rfl (by decide) (lv' := [(1, .int 0), (0, .ref a0)]) rfl ?_
      refine z_sub [1, 0] rfl ?_
      refine LX7_note_11_ok C ?_ FUEL _ _ hf
      · intro h18 hf
        refine z_aload_n C dX7_note_40 0 rfl rfl ?_
        refine z_dup C dX7_note_41 rfl ?_
        refine z_getI C fl_X7_168 dX7_note_42 hf (fun x19 hf => ?_)
        refine z_iconst C (v := 1) dX7_note_45 (by decide) ?_
        refine z_isub C dX7_note_46 ?_
        refine z_put C fl_X7_168 dX7_note_47 rfl rfl hf (fun h20 hf => ?_)
        exact kJ2 _ hf
theorem MX7_note (l : Launch) (D : va_G) (T : zT) (lo : Nat) (al : Bool) (hi : Nat) {h : zH} {a0 : Nat} {h9 : zH} (hf : FX7_note T a0 h = some h9) : zM l yX7_note (.code yX7_note cX7_note 2 none :: TW) ({ frames := 1, cells := 0, slots := 0, locals := 24 } : Room) D T lo al [.ref a0] hi h (none, hi, h9) :=
  z_enter (own := RX7) (nm := "note") (lv := [(0, .ref a0)]) (by decide +kernel) rfl rfl (Nat.le_of_ble_eq_true rfl) rfl (fun _ _ _ _ _ _ _ _ C => BX7_note C hf)
theorem OX7_note {T : zT} {h : zH} {a0 : Nat} {r9 : zH} (hf : FX7_note T a0 h = some r9) : ∃ fs, h a0 = some (.inr (7, fs)) := by
  obtain ⟨_, h1, _⟩ := zbind hf
  exact zo_obj h1
theorem dX7_write_0 : decode cX7_write 0 = .ok (.iload_n 3, 1) := by decide +kernel
theorem dX7_write_1 : decode cX7_write 1 = .ok (.i2l, 1) := by decide +kernel
theorem dX7_write_2 : decode cX7_write 2 = .ok (.lconst 0, 1) := by decide +kernel
theorem dX7_write_3 : decode cX7_write 3 = .ok (.ldc2_w 200, 3) := by decide +kernel
theorem dX7_write_6 : decode cX7_write 6 = .ok (.invokestatic 58, 3) := by decide +kernel
theorem dX7_write_9 : decode cX7_write 9 = .ok (.ifCond .eq 33, 3) := by decide +kernel
theorem dX7_write_12 : decode cX7_write 12 = .ok (.iload 4, 2) := by decide +kernel
theorem dX7_write_14 : decode cX7_write 14 = .ok (.i2l, 1) := by decide +kernel
theorem dX7_write_15 : decode cX7_write 15 = .ok (.lconst 0, 1) := by decide +kernel
theorem dX7_write_16 : decode cX7_write 16 = .ok (.ldc2_w 202, 3) := by decide +kernel
theorem dX7_write_19 : decode cX7_write 19 = .ok (.invokestatic 58, 3) := by decide +kernel
theorem dX7_write_22 : decode cX7_write 22 = .ok (.ifCond .eq 20, 3) := by decide +kernel
theorem dX7_write_25 : decode cX7_write 25 = .ok (.iload 5, 2) := by decide +kernel
theorem dX7_write_27 : decode cX7_write 27 = .ok (.i2l, 1) := by decide +kernel
theorem dX7_write_28 : decode cX7_write 28 = .ok (.lconst 0, 1) := by decide +kernel
theorem dX7_write_29 : decode cX7_write 29 = .ok (.ldc2_w 204, 3) := by decide +kernel
theorem dX7_write_32 : decode cX7_write 32 = .ok (.invokestatic 58, 3) := by decide +kernel
theorem dX7_write_35 : decode cX7_write 35 = .ok (.ifCond .eq 7, 3) := by decide +kernel
theorem dX7_write_38 : decode cX7_write 38 = .ok (.iconst 1, 1) := by decide +kernel
theorem dX7_write_39 : decode cX7_write 39 = .ok (.goto 4, 3) := by decide +kernel
theorem dX7_write_42 : decode cX7_write 42 = .ok (.iconst 0, 1) := by decide +kernel
theorem dX7_write_43 : decode cX7_write 43 = .ok (.istore 6, 2) := by decide +kernel
theorem dX7_write_45 : decode cX7_write 45 = .ok (.aload_n 0, 1) := by decide +kernel
theorem dX7_write_46 : decode cX7_write 46 = .ok (.aload_n 0, 1) := by decide +kernel
theorem dX7_write_47 : decode cX7_write 47 = .ok (.getfield 16, 3) := by decide +kernel
theorem dX7_write_50 : decode cX7_write 50 = .ok (.iload_n 1, 1) := by decide +kernel
theorem dX7_write_51 : decode cX7_write 51 = .ok (.iload_n 2, 1) := by decide +kernel
theorem dX7_write_52 : decode cX7_write 52 = .ok (.invokestatic 62, 3) := by decide +kernel
theorem dX7_write_55 : decode cX7_write 55 = .ok (.ifCond .ne 7, 3) := by decide +kernel
theorem dX7_write_58 : decode cX7_write 58 = .ok (.iconst 1, 1) := by decide +kernel
theorem dX7_write_59 : decode cX7_write 59 = .ok (.goto 31, 3) := by decide +kernel
theorem dX7_write_62 : decode cX7_write 62 = .ok (.iload 6, 2) := by decide +kernel
theorem dX7_write_64 : decode cX7_write 64 = .ok (.ifCond .ne 7, 3) := by decide +kernel
theorem dX7_write_67 : decode cX7_write 67 = .ok (.iconst 2, 1) := by decide +kernel
theorem dX7_write_68 : decode cX7_write 68 = .ok (.goto 22, 3) := by decide +kernel
theorem dX7_write_71 : decode cX7_write 71 = .ok (.aload_n 0, 1) := by decide +kernel
theorem dX7_write_72 : decode cX7_write 72 = .ok (.getfield 16, 3) := by decide +kernel
theorem dX7_write_75 : decode cX7_write 75 = .ok (.iload_n 1, 1) := by decide +kernel
theorem dX7_write_76 : decode cX7_write 76 = .ok (.iload_n 2, 1) := by decide +kernel
theorem dX7_write_77 : decode cX7_write 77 = .ok (.invokestatic 66, 3) := by decide +kernel
theorem dX7_write_80 : decode cX7_write 80 = .ok (.iaload, 1) := by decide +kernel
theorem dX7_write_81 : decode cX7_write 81 = .ok (.iconst 2, 1) := by decide +kernel
theorem dX7_write_82 : decode cX7_write 82 = .ok (.if_icmp .ne 7, 3) := by decide +kernel
theorem dX7_write_85 : decode cX7_write 85 = .ok (.iconst 3, 1) := by decide +kernel
theorem dX7_write_86 : decode cX7_write 86 = .ok (.goto 4, 3) := by decide +kernel
theorem dX7_write_89 : decode cX7_write 89 = .ok (.iconst 0, 1) := by decide +kernel
theorem dX7_write_90 : decode cX7_write 90 = .ok (.invokevirtual 120, 3) := by decide +kernel
theorem dX7_write_93 : decode cX7_write 93 = .ok (.ifCond .eq 5, 3) := by decide +kernel
theorem dX7_write_96 : decode cX7_write 96 = .ok (.iconst 0, 1) := by decide +kernel
theorem dX7_write_97 : decode cX7_write 97 = .ok (.ireturn, 1) := by decide +kernel
theorem dX7_write_98 : decode cX7_write 98 = .ok (.aload_n 0, 1) := by decide +kernel
theorem dX7_write_99 : decode cX7_write 99 = .ok (.invokevirtual 206, 3) := by decide +kernel
theorem dX7_write_102 : decode cX7_write 102 = .ok (.aload_n 0, 1) := by decide +kernel
theorem dX7_write_103 : decode cX7_write 103 = .ok (.getfield 16, 3) := by decide +kernel
theorem dX7_write_106 : decode cX7_write 106 = .ok (.iload_n 1, 1) := by decide +kernel
theorem dX7_write_107 : decode cX7_write 107 = .ok (.iload_n 2, 1) := by decide +kernel
theorem dX7_write_108 : decode cX7_write 108 = .ok (.invokestatic 66, 3) := by decide +kernel
theorem dX7_write_111 : decode cX7_write 111 = .ok (.iload_n 3, 1) := by decide +kernel
theorem dX7_write_112 : decode cX7_write 112 = .ok (.iload 4, 2) := by decide +kernel
theorem dX7_write_114 : decode cX7_write 114 = .ok (.iload 5, 2) := by decide +kernel
theorem dX7_write_116 : decode cX7_write 116 = .ok (.invokestatic 144, 3) := by decide +kernel
theorem dX7_write_119 : decode cX7_write 119 = .ok (.ireturn, 1) := by decide +kernel
def FX7_write (T : zT) (a0 : Nat) (p0 : Int32) (p1 : Int32) (p2 : Int32) (p3 : Int32) (p4 : Int32) (h : zH) : Option (Int32 × zH) := (zo h a0 7).bind fun _ => zJ (fun (x1 : Int32) => zJ (fun (x3 : Int32) (x4 : Nat) => zb2 (FX7_refused T x4 x3 h) fun x7 h8 => if x7 = 0 then ((FX7_note T a0 h8).bind fun h10 => (zgr h10 a0 7 5).bind fun x11 => (FX7_cellAt T p0 p1 h10).bind fun x13 => zb2 (FX7_writeOn T x11 x13 p2 p3 p4 h10) fun x15 h16 => some (x15, h16)) else (some (0, h8))) (fun J5 => (zgr h a0 7 5).bind fun x17 => (FX7_isCell T x17 p0 p1 h).bind fun x19 => if x19 = 0 then (J5 1 a0) else (if x1 = 0 then (J5 2 a0) else ((zgr h a0 7 5).bind fun x20 => (FX7_cellAt T p0 p1 h).bind fun x22 => (zai T h x20 x22).bind fun x23 => if x23 = 2 then (J5 3 a0) else (J5 0 a0))))) (fun J2 => zJ (fun (u9 : Unit) => J2 0) (fun J24 => (FX7_in T p2.toInt64 (0 : Int64) (26 : Int64) h).bind fun x26 => if x26 = 0 then (J24 ()) else ((FX7_in T p3.toInt64 (0 : Int64) (3 : Int64) h).bind fun x28 => if x28 = 0 then (J24 ()) else ((FX7_in T p4.toInt64 (0 : Int64) (8 : Int64) h).bind fun x30 => if x30 = 0 then (J24 ()) else (J2 1)))))
set_option maxHeartbeats 4000000 in
set_option maxRecDepth 100000 in
theorem BX7_write {X : zX} (C : zC X cX7_write 7 RX7 "write" (some .int) 2 47) {al : Bool} {hi : Nat} {h : zH} {a0 : Nat} {p0 : Int32} {p1 : Int32} {p2 : Int32} {p3 : Int32} {p4 : Int32} {r9 : (Int32 × zH)} (hf : FX7_write (xT X) a0 p0 p1 p2 p3 p4 h = some r9) : zW X 7 (zZ X al (some (.int r9.1), hi, r9.2)) 0 0 al hi h 0 [(0, .ref a0), (1, .int p0), (2, .int p1), (3, .int p2), (4, .int p3), (5, .int p4)] [] := by
  unfold FX7_write at hf
  obtain ⟨_, _, hf⟩ := zbind hf
  refine z_join (P := fun J => ∀ (x1 : Int32), J x1 = some r9 → zW X 7 (zZ X al (some (.int r9.1), hi, r9.2)) 0 0 al hi h 43 [(0, .ref a0), (1, .int p0), (2, .int p1), (3, .int p2), (4, .int p3), (5, .int p4)] [.int x1]) hf ?_ ?_
  · intro x1 hf
    refine z_join (P := fun J => ∀ (x3 : Int32) (x4 : Nat), J x3 x4 = some r9 → zW X 7 (zZ X al (some (.int r9.1), hi, r9.2)) 0 0 al hi h 90 [(0, .ref a0), (1, .int p0), (2, .int p1), (3, .int p2), (4, .int p3), (5, .int p4)] [.int x3, .ref x4]) hf ?_ ?_
    · intro x3 x4 hf
      obtain ⟨x7, h8, g6, hf⟩ := zbind2 hf
      refine z_callV (kc' := 0) (ks' := 0) C (MX7_refused (xl X) (xD X) (xT X) (xlo X) al hi g6) (OX7_refused g6) rfl cw_X7_120 yv_X7_refused dX7_write_90 rfl (by decide) ⟨rfl, rfl⟩ (Nat.le_of_ble_eq_true rfl) (st := []) rfl ?_
      refine z_if_eq (tgt := 98) C dX7_write_93 (by decide) hf (fun hf => ?_) (fun hf => ?_)
      · refine z_aload_n C dX7_write_98 0 rfl rfl ?_
        obtain ⟨h10, g9, hf⟩ := zbind hf
        refine z_callV (kc' := 0) (ks' := 0) C (MX7_note (xl X) (xD X) (xT X) (xlo X) al hi g9) (OX7_note g9) rfl cw_X7_206 yv_X7_note dX7_write_99 rfl (by decide) ⟨rfl, rfl⟩ (Nat.le_of_ble_eq_true rfl) (st := []) rfl ?_
        refine z_aload_n C dX7_write_102 0 rfl rfl ?_
        refine z_getR C fl_X7_16 dX7_write_103 hf (fun x11 hf => ?_)
        refine z_iload_n C dX7_write_106 1 rfl rfl ?_
        refine z_iload_n C dX7_write_107 2 rfl rfl ?_
        obtain ⟨x13, g12, hf⟩ := zbind hf
        refine z_callS (kc' := 0) (ks' := 0) C (MX7_cellAt (xl X) (xD X) (xT X) (xlo X) al hi g12) cw_X7_66 ys_X7_cellAt dX7_write_108 rfl (by decide) ⟨rfl, rfl⟩ (Nat.le_of_ble_eq_true rfl) (st := [.ref x11]) rfl ?_
        refine z_iload_n C dX7_write_111 3 rfl rfl ?_
        refine z_iload C dX7_write_112 4 rfl ?_
        refine z_iload C dX7_write_114 5 rfl ?_
        obtain ⟨x15, h16, g14, hf⟩ := zbind2 hf
        refine z_callS (kc' := 0) (ks' := 0) C (MX7_writeOn (xl X) (xD X) (xT X) (xlo X) al hi g14) cw_X7_144 ys_X7_writeOn dX7_write_116 rfl (by decide) ⟨rfl, rfl⟩ (Nat.le_of_ble_eq_true rfl) (st := []) rfl ?_
        exact z_ireturn C dX7_write_119 (by cases hf; rfl)
      · refine z_iconst C (v := 0) dX7_write_96 (by decide) ?_
        exact z_ireturn C dX7_write_97 (by cases hf; rfl)
    · intro J5 kJ5 hf
      refine z_istore C dX7_write_43 (by decide) (lv' := [(6, .int x1), (0, .ref a0), (1, .int p0), (2, .int p1), (3, .int p2), (4, .int p3), (5, .int p4)]) rfl ?_
      refine z_aload_n C dX7_write_45 1 rfl rfl ?_
      refine z_aload_n C dX7_write_46 1 rfl rfl ?_
      refine z_getR C fl_X7_16 dX7_write_47 hf (fun x17 hf => ?_)
      refine z_iload_n C dX7_write_50 2 rfl rfl ?_
      refine z_iload_n C dX7_write_51 3 rfl rfl ?_
      obtain ⟨x19, g18, hf⟩ := zbind hf
      refine z_callS (kc' := 0) (ks' := 0) C (MX7_isCell (xl X) (xD X) (xT X) (xlo X) al hi g18) cw_X7_62 ys_X7_isCell dX7_write_52 rfl (by decide) ⟨rfl, rfl⟩ (Nat.le_of_ble_eq_true rfl) (st := [.ref a0]) rfl ?_
      refine z_if_ne (tgt := 62) C dX7_write_55 (by decide) hf (fun hf => ?_) (fun hf => ?_)
      · refine z_iload C dX7_write_62 0 rfl ?_
        refine z_if_ne (tgt := 71) C dX7_write_64 (by decide) hf (fun hf => ?_) (fun hf => ?_)
        · refine z_aload_n C dX7_write_71 1 rfl rfl ?_
          refine z_getR C fl_X7_16 dX7_write_72 hf (fun x20 hf => ?_)
          refine z_iload_n C dX7_write_75 2 rfl rfl ?_
          refine z_iload_n C dX7_write_76 3 rfl rfl ?_
          obtain ⟨x22, g21, hf⟩ := zbind hf
          refine z_callS (kc' := 0) (ks' := 0) C (MX7_cellAt (xl X) (xD X) (xT X) (xlo X) al hi g21) cw_X7_66 ys_X7_cellAt dX7_write_77 rfl (by decide) ⟨rfl, rfl⟩ (Nat.le_of_ble_eq_true rfl) (st := [.ref x20, .ref a0]) rfl ?_
          refine z_iaload C dX7_write_80 hf (fun x23 hf => ?_)
          refine z_iconst C (v := 2) dX7_write_81 (by decide) ?_
          refine z_icmp_ne (tgt := 89) C dX7_write_82 (by decide) hf (fun hf => ?_) (fun hf => ?_)
          · refine z_iconst C (v := 0) dX7_write_89 (by decide) ?_
            refine z_sub [1, 2, 3, 4, 5, 6] rfl ?_
            exact kJ5 _ _ hf
          · refine z_iconst C (v := 3) dX7_write_85 (by decide) ?_
            refine z_goto (tgt := 90) C dX7_write_86 (by decide) ?_
            refine z_sub [1, 2, 3, 4, 5, 6] rfl ?_
            exact kJ5 _ _ hf
        · refine z_iconst C (v := 2) dX7_write_67 (by decide) ?_
          refine z_goto (tgt := 90) C dX7_write_68 (by decide) ?_
          refine z_sub [1, 2, 3, 4, 5, 6] rfl ?_
          exact kJ5 _ _ hf
      · refine z_iconst C (v := 1) dX7_write_58 (by decide) ?_
        refine z_goto (tgt := 90) C dX7_write_59 (by decide) ?_
        refine z_sub [1, 2, 3, 4, 5, 6] rfl ?_
        exact kJ5 _ _ hf
  · intro J2 kJ2 hf
    refine z_join (P := fun J => ∀ (u9 : Unit), J u9 = some r9 → zW X 7 (zZ X al (some (.int r9.1), hi, r9.2)) 0 0 al hi h 42 [(0, .ref a0), (1, .int p0), (2, .int p1), (3, .int p2), (4, .int p3), (5, .int p4)] []) hf ?_ ?_
    · intro u9 hf
      refine z_iconst C (v := 0) dX7_write_42 (by decide) ?_
      exact kJ2 _ hf
    · intro J24 kJ24 hf
      refine z_iload_n C dX7_write_0 3 rfl rfl ?_
      refine z_i2l C dX7_write_1 ?_
      refine z_lconst C (v := 0) dX7_write_2 (by decide) ?_
      refine z_ldc2 C (v := 26) mw_1211 dX7_write_3 ?_
      obtain ⟨x26, g25, hf⟩ := zbind hf
      refine z_callS (kc' := 0) (ks' := 0) C (MX7_in (xl X) (xD X) (xT X) (xlo X) al hi g25) cw_X7_58 ys_X7_in dX7_write_6 rfl (by decide) ⟨rfl, rfl⟩ (Nat.le_of_ble_eq_true rfl) (st := []) rfl ?_
      refine z_if_eq (tgt := 42) C dX7_write_9 (by decide) hf (fun hf => ?_) (fun hf => ?_)
      · exact kJ24 _ hf
      · refine z_iload C dX7_write_12 4 rfl ?_
        refine z_i2l C dX7_write_14 ?_
        refine z_lconst C (v := 0) dX7_write_15 (by decide) ?_
        refine z_ldc2 C (v := 3) mw_1212 dX7_write_16 ?_
        obtain ⟨x28, g27, hf⟩ := zbind hf
        refine z_callS (kc' := 0) (ks' := 0) C (MX7_in (xl X) (xD X) (xT X) (xlo X) al hi g27) cw_X7_58 ys_X7_in dX7_write_19 rfl (by decide) ⟨rfl, rfl⟩ (Nat.le_of_ble_eq_true rfl) (st := []) rfl ?_
        refine z_if_eq (tgt := 42) C dX7_write_22 (by decide) hf (fun hf => ?_) (fun hf => ?_)
        · exact kJ24 _ hf
        · refine z_iload C dX7_write_25 5 rfl ?_
          refine z_i2l C dX7_write_27 ?_
          refine z_lconst C (v := 0) dX7_write_28 (by decide) ?_
          refine z_ldc2 C (v := 8) mw_1213 dX7_write_29 ?_
          obtain ⟨x30, g29, hf⟩ := zbind hf
          refine z_callS (kc' := 0) (ks' := 0) C (MX7_in (xl X) (xD X) (xT X) (xlo X) al hi g29) cw_X7_58 ys_X7_in dX7_write_32 rfl (by decide) ⟨rfl, rfl⟩ (Nat.le_of_ble_eq_true rfl) (st := []) rfl ?_
          refine z_if_eq (tgt := 42) C dX7_write_35 (by decide) hf (fun hf => ?_) (fun hf => ?_)
          · exact kJ24 _ hf
          · refine z_iconst C (v := 1) dX7_write_38 (by decide) ?_
            refine z_goto (tgt := 43) C dX7_write_39 (by decide) ?_
            exact kJ2 _ hf
theorem MX7_write (l : Launch) (D : va_G) (T : zT) (lo : Nat) (al : Bool) (hi : Nat) {h : zH} {a0 : Nat} {p0 : Int32} {p1 : Int32} {p2 : Int32} {p3 : Int32} {p4 : Int32} {v9 : Int32} {h9 : zH} (hf : FX7_write T a0 p0 p1 p2 p3 p4 h = some (v9, h9)) : zM l yX7_write (.code yX7_write cX7_write 7 (some .int) :: TW) ({ frames := 2, cells := 0, slots := 0, locals := 47 } : Room) D T lo al [.ref a0, .int p0, .int p1, .int p2, .int p3, .int p4] hi h (some (.int v9), hi, h9) :=
  z_enter (own := RX7) (nm := "write") (lv := [(0, .ref a0), (1, .int p0), (2, .int p1), (3, .int p2), (4, .int p3), (5, .int p4)]) (by decide +kernel) rfl rfl (Nat.le_of_ble_eq_true rfl) rfl (fun _ _ _ _ _ _ _ _ C => BX7_write C hf)
theorem OX7_write {T : zT} {h : zH} {a0 : Nat} {p0 : Int32} {p1 : Int32} {p2 : Int32} {p3 : Int32} {p4 : Int32} {r9 : (Int32 × zH)} (hf : FX7_write T a0 p0 p1 p2 p3 p4 h = some r9) : ∃ fs, h a0 = some (.inr (7, fs)) := by
  obtain ⟨_, h1, _⟩ := zbind hf
  exact zo_obj h1
theorem dX7_erase_0 : decode cX7_erase 0 = .ok (.aload_n 0, 1) := by decide +kernel
theorem dX7_erase_1 : decode cX7_erase 1 = .ok (.aload_n 0, 1) := by decide +kernel
theorem dX7_erase_2 : decode cX7_erase 2 = .ok (.getfield 16, 3) := by decide +kernel
theorem dX7_erase_5 : decode cX7_erase 5 = .ok (.iload_n 1, 1) := by decide +kernel
theorem dX7_erase_6 : decode cX7_erase 6 = .ok (.iload_n 2, 1) := by decide +kernel
theorem dX7_erase_7 : decode cX7_erase 7 = .ok (.iload_n 3, 1) := by decide +kernel
theorem dX7_erase_8 : decode cX7_erase 8 = .ok (.invokestatic 190, 3) := by decide +kernel
theorem dX7_erase_11 : decode cX7_erase 11 = .ok (.ifCond .eq 7, 3) := by decide +kernel
theorem dX7_erase_14 : decode cX7_erase 14 = .ok (.iconst 0, 1) := by decide +kernel
theorem dX7_erase_15 : decode cX7_erase 15 = .ok (.goto 4, 3) := by decide +kernel
theorem dX7_erase_18 : decode cX7_erase 18 = .ok (.iconst 1, 1) := by decide +kernel
theorem dX7_erase_19 : decode cX7_erase 19 = .ok (.invokevirtual 120, 3) := by decide +kernel
theorem dX7_erase_22 : decode cX7_erase 22 = .ok (.ifCond .eq 5, 3) := by decide +kernel
theorem dX7_erase_25 : decode cX7_erase 25 = .ok (.iconst 0, 1) := by decide +kernel
theorem dX7_erase_26 : decode cX7_erase 26 = .ok (.ireturn, 1) := by decide +kernel
theorem dX7_erase_27 : decode cX7_erase 27 = .ok (.aload_n 0, 1) := by decide +kernel
theorem dX7_erase_28 : decode cX7_erase 28 = .ok (.invokevirtual 206, 3) := by decide +kernel
theorem dX7_erase_31 : decode cX7_erase 31 = .ok (.aload_n 0, 1) := by decide +kernel
theorem dX7_erase_32 : decode cX7_erase 32 = .ok (.getfield 16, 3) := by decide +kernel
theorem dX7_erase_35 : decode cX7_erase 35 = .ok (.iload_n 1, 1) := by decide +kernel
theorem dX7_erase_36 : decode cX7_erase 36 = .ok (.iload_n 2, 1) := by decide +kernel
theorem dX7_erase_37 : decode cX7_erase 37 = .ok (.invokestatic 66, 3) := by decide +kernel
theorem dX7_erase_40 : decode cX7_erase 40 = .ok (.iload_n 3, 1) := by decide +kernel
theorem dX7_erase_41 : decode cX7_erase 41 = .ok (.invokestatic 209, 3) := by decide +kernel
theorem dX7_erase_44 : decode cX7_erase 44 = .ok (.ireturn, 1) := by decide +kernel
def FX7_erase (T : zT) (a0 : Nat) (p0 : Int32) (p1 : Int32) (p2 : Int32) (h : zH) : Option (Int32 × zH) := (zo h a0 7).bind fun _ => zJ (fun (x1 : Int32) (x2 : Nat) => zb2 (FX7_refused T x2 x1 h) fun x5 h6 => if x5 = 0 then ((FX7_note T a0 h6).bind fun h8 => (zgr h8 a0 7 5).bind fun x9 => (FX7_cellAt T p0 p1 h8).bind fun x11 => zb2 (FX7_eraseOn T x9 x11 p2 h8) fun x13 h14 => some (x13, h14)) else (some (0, h6))) (fun J3 => (zgr h a0 7 5).bind fun x15 => (FX7_isMark T x15 p0 p1 p2 h).bind fun x17 => if x17 = 0 then (J3 1 a0) else (J3 0 a0))
set_option maxHeartbeats 4000000 in
set_option maxRecDepth 100000 in
theorem BX7_erase {X : zX} (C : zC X cX7_erase 4 RX7 "erase" (some .int) 3 70) {al : Bool} {hi : Nat} {h : zH} {a0 : Nat} {p0 : Int32} {p1 : Int32} {p2 : Int32} {r9 : (Int32 × zH)} (hf : FX7_erase (xT X) a0 p0 p1 p2 h = some r9) : zW X 4 (zZ X al (some (.int r9.1), hi, r9.2)) 0 0 al hi h 0 [(0, .ref a0), (1, .int p0), (2, .int p1), (3, .int p2)] [] := by
  unfold FX7_erase at hf
  obtain ⟨_, _, hf⟩ := zbind hf
  refine z_join (P := fun J => ∀ (x1 : Int32) (x2 : Nat), J x1 x2 = some r9 → zW X 4 (zZ X al (some (.int r9.1), hi, r9.2)) 0 0 al hi h 19 [(0, .ref a0), (1, .int p0), (2, .int p1), (3, .int p2)] [.int x1, .ref x2]) hf ?_ ?_
  · intro x1 x2 hf
    obtain ⟨x5, h6, g4, hf⟩ := zbind2 hf
    refine z_callV (kc' := 0) (ks' := 0) C (MX7_refused (xl X) (xD X) (xT X) (xlo X) al hi g4) (OX7_refused g4) rfl cw_X7_120 yv_X7_refused dX7_erase_19 rfl (by decide) ⟨rfl, rfl⟩ (Nat.le_of_ble_eq_true rfl) (st := []) rfl ?_
    refine z_if_eq (tgt := 27) C dX7_erase_22 (by decide) hf (fun hf => ?_) (fun hf => ?_)
    · refine z_aload_n C dX7_erase_27 0 rfl rfl ?_
      obtain ⟨h8, g7, hf⟩ := zbind hf
      refine z_callV (kc' := 0) (ks' := 0) C (MX7_note (xl X) (xD X) (xT X) (xlo X) al hi g7) (OX7_note g7) rfl cw_X7_206 yv_X7_note dX7_erase_28 rfl (by decide) ⟨rfl, rfl⟩ (Nat.le_of_ble_eq_true rfl) (st := []) rfl ?_
      refine z_aload_n C dX7_erase_31 0 rfl rfl ?_
      refine z_getR C fl_X7_16 dX7_erase_32 hf (fun x9 hf => ?_)
      refine z_iload_n C dX7_erase_35 1 rfl rfl ?_
      refine z_iload_n C dX7_erase_36 2 rfl rfl ?_
      obtain ⟨x11, g10, hf⟩ := zbind hf
      refine z_callS (kc' := 0) (ks' := 0) C (MX7_cellAt (xl X) (xD X) (xT X) (xlo X) al hi g10) cw_X7_66 ys_X7_cellAt dX7_erase_37 rfl (by decide) ⟨rfl, rfl⟩ (Nat.le_of_ble_eq_true rfl) (st := [.ref x9]) rfl ?_
      refine z_iload_n C dX7_erase_40 3 rfl rfl ?_
      obtain ⟨x13, h14, g12, hf⟩ := zbind2 hf
      refine z_callS (kc' := 0) (ks' := 0) C (MX7_eraseOn (xl X) (xD X) (xT X) (xlo X) al hi g12) cw_X7_209 ys_X7_eraseOn dX7_erase_41 rfl (by decide) ⟨rfl, rfl⟩ (Nat.le_of_ble_eq_true rfl) (st := []) rfl ?_
      exact z_ireturn C dX7_erase_44 (by cases hf; rfl)
    · refine z_iconst C (v := 0) dX7_erase_25 (by decide) ?_
      exact z_ireturn C dX7_erase_26 (by cases hf; rfl)
  · intro J3 kJ3 hf
    refine z_aload_n C dX7_erase_0 0 rfl rfl ?_
    refine z_aload_n C dX7_erase_1 0 rfl rfl ?_
    refine z_getR C fl_X7_16 dX7_erase_2 hf (fun x15 hf => ?_)
    refine z_iload_n C dX7_erase_5 1 rfl rfl ?_
    refine z_iload_n C dX7_erase_6 2 rfl rfl ?_
    refine z_iload_n C dX7_erase_7 3 rfl rfl ?_
    obtain ⟨x17, g16, hf⟩ := zbind hf
    refine z_callS (kc' := 0) (ks' := 0) C (MX7_isMark (xl X) (xD X) (xT X) (xlo X) al hi g16) cw_X7_190 ys_X7_isMark dX7_erase_8 rfl (by decide) ⟨rfl, rfl⟩ (Nat.le_of_ble_eq_true rfl) (st := [.ref a0]) rfl ?_
    refine z_if_eq (tgt := 18) C dX7_erase_11 (by decide) hf (fun hf => ?_) (fun hf => ?_)
    · refine z_iconst C (v := 1) dX7_erase_18 (by decide) ?_
      exact kJ3 _ _ hf
    · refine z_iconst C (v := 0) dX7_erase_14 (by decide) ?_
      refine z_goto (tgt := 19) C dX7_erase_15 (by decide) ?_
      exact kJ3 _ _ hf
theorem MX7_erase (l : Launch) (D : va_G) (T : zT) (lo : Nat) (al : Bool) (hi : Nat) {h : zH} {a0 : Nat} {p0 : Int32} {p1 : Int32} {p2 : Int32} {v9 : Int32} {h9 : zH} (hf : FX7_erase T a0 p0 p1 p2 h = some (v9, h9)) : zM l yX7_erase (.code yX7_erase cX7_erase 4 (some .int) :: TW) ({ frames := 3, cells := 0, slots := 0, locals := 70 } : Room) D T lo al [.ref a0, .int p0, .int p1, .int p2] hi h (some (.int v9), hi, h9) :=
  z_enter (own := RX7) (nm := "erase") (lv := [(0, .ref a0), (1, .int p0), (2, .int p1), (3, .int p2)]) (by decide +kernel) rfl rfl (Nat.le_of_ble_eq_true rfl) rfl (fun _ _ _ _ _ _ _ _ C => BX7_erase C hf)
theorem OX7_erase {T : zT} {h : zH} {a0 : Nat} {p0 : Int32} {p1 : Int32} {p2 : Int32} {r9 : (Int32 × zH)} (hf : FX7_erase T a0 p0 p1 p2 h = some r9) : ∃ fs, h a0 = some (.inr (7, fs)) := by
  obtain ⟨_, h1, _⟩ := zbind hf
  exact zo_obj h1
theorem dX7_decide_0 : decode cX7_decide 0 = .ok (.aload_n 0, 1) := by decide +kernel
theorem dX7_decide_1 : decode cX7_decide 1 = .ok (.aload_n 0, 1) := by decide +kernel
theorem dX7_decide_2 : decode cX7_decide 2 = .ok (.getfield 16, 3) := by decide +kernel
theorem dX7_decide_5 : decode cX7_decide 5 = .ok (.iload_n 1, 1) := by decide +kernel
theorem dX7_decide_6 : decode cX7_decide 6 = .ok (.iload_n 2, 1) := by decide +kernel
theorem dX7_decide_7 : decode cX7_decide 7 = .ok (.iload_n 3, 1) := by decide +kernel
theorem dX7_decide_8 : decode cX7_decide 8 = .ok (.invokestatic 190, 3) := by decide +kernel
theorem dX7_decide_11 : decode cX7_decide 11 = .ok (.ifCond .ne 7, 3) := by decide +kernel
theorem dX7_decide_14 : decode cX7_decide 14 = .ok (.iconst 1, 1) := by decide +kernel
theorem dX7_decide_15 : decode cX7_decide 15 = .ok (.goto 43, 3) := by decide +kernel
theorem dX7_decide_18 : decode cX7_decide 18 = .ok (.iload 4, 2) := by decide +kernel
theorem dX7_decide_20 : decode cX7_decide 20 = .ok (.i2l, 1) := by decide +kernel
theorem dX7_decide_21 : decode cX7_decide 21 = .ok (.lconst 0, 1) := by decide +kernel
theorem dX7_decide_22 : decode cX7_decide 22 = .ok (.ldc2_w 212, 3) := by decide +kernel
theorem dX7_decide_25 : decode cX7_decide 25 = .ok (.invokestatic 58, 3) := by decide +kernel
theorem dX7_decide_28 : decode cX7_decide 28 = .ok (.ifCond .ne 7, 3) := by decide +kernel
theorem dX7_decide_31 : decode cX7_decide 31 = .ok (.iconst 2, 1) := by decide +kernel
theorem dX7_decide_32 : decode cX7_decide 32 = .ok (.goto 26, 3) := by decide +kernel
theorem dX7_decide_35 : decode cX7_decide 35 = .ok (.aload_n 0, 1) := by decide +kernel
theorem dX7_decide_36 : decode cX7_decide 36 = .ok (.getfield 16, 3) := by decide +kernel
theorem dX7_decide_39 : decode cX7_decide 39 = .ok (.iload_n 1, 1) := by decide +kernel
theorem dX7_decide_40 : decode cX7_decide 40 = .ok (.iload_n 2, 1) := by decide +kernel
theorem dX7_decide_41 : decode cX7_decide 41 = .ok (.invokestatic 66, 3) := by decide +kernel
theorem dX7_decide_44 : decode cX7_decide 44 = .ok (.iload_n 3, 1) := by decide +kernel
theorem dX7_decide_45 : decode cX7_decide 45 = .ok (.iload 4, 2) := by decide +kernel
theorem dX7_decide_47 : decode cX7_decide 47 = .ok (.invokestatic 214, 3) := by decide +kernel
theorem dX7_decide_50 : decode cX7_decide 50 = .ok (.ifCond .ne 7, 3) := by decide +kernel
theorem dX7_decide_53 : decode cX7_decide 53 = .ok (.iconst 3, 1) := by decide +kernel
theorem dX7_decide_54 : decode cX7_decide 54 = .ok (.goto 4, 3) := by decide +kernel
theorem dX7_decide_57 : decode cX7_decide 57 = .ok (.iconst 0, 1) := by decide +kernel
theorem dX7_decide_58 : decode cX7_decide 58 = .ok (.invokevirtual 120, 3) := by decide +kernel
theorem dX7_decide_61 : decode cX7_decide 61 = .ok (.ifCond .eq 5, 3) := by decide +kernel
theorem dX7_decide_64 : decode cX7_decide 64 = .ok (.iconst 0, 1) := by decide +kernel
theorem dX7_decide_65 : decode cX7_decide 65 = .ok (.ireturn, 1) := by decide +kernel
theorem dX7_decide_66 : decode cX7_decide 66 = .ok (.aload_n 0, 1) := by decide +kernel
theorem dX7_decide_67 : decode cX7_decide 67 = .ok (.invokevirtual 206, 3) := by decide +kernel
theorem dX7_decide_70 : decode cX7_decide 70 = .ok (.aload_n 0, 1) := by decide +kernel
theorem dX7_decide_71 : decode cX7_decide 71 = .ok (.getfield 16, 3) := by decide +kernel
theorem dX7_decide_74 : decode cX7_decide 74 = .ok (.iload_n 1, 1) := by decide +kernel
theorem dX7_decide_75 : decode cX7_decide 75 = .ok (.iload_n 2, 1) := by decide +kernel
theorem dX7_decide_76 : decode cX7_decide 76 = .ok (.invokestatic 66, 3) := by decide +kernel
theorem dX7_decide_79 : decode cX7_decide 79 = .ok (.iload_n 3, 1) := by decide +kernel
theorem dX7_decide_80 : decode cX7_decide 80 = .ok (.iload 4, 2) := by decide +kernel
theorem dX7_decide_82 : decode cX7_decide 82 = .ok (.invokestatic 217, 3) := by decide +kernel
theorem dX7_decide_85 : decode cX7_decide 85 = .ok (.aload_n 0, 1) := by decide +kernel
theorem dX7_decide_86 : decode cX7_decide 86 = .ok (.getfield 16, 3) := by decide +kernel
theorem dX7_decide_89 : decode cX7_decide 89 = .ok (.invokestatic 175, 3) := by decide +kernel
theorem dX7_decide_92 : decode cX7_decide 92 = .ok (.ireturn, 1) := by decide +kernel
def FX7_decide (T : zT) (a0 : Nat) (p0 : Int32) (p1 : Int32) (p2 : Int32) (p3 : Int32) (h : zH) : Option (Int32 × zH) := (zo h a0 7).bind fun _ => zJ (fun (x1 : Int32) (x2 : Nat) => zb2 (FX7_refused T x2 x1 h) fun x5 h6 => if x5 = 0 then ((FX7_note T a0 h6).bind fun h8 => (zgr h8 a0 7 5).bind fun x9 => (FX7_cellAt T p0 p1 h8).bind fun x11 => (FX7_decideOn T x9 x11 p2 p3 h8).bind fun h13 => (zgr h13 a0 7 5).bind fun x14 => (FX7_doubts T x14 h13).bind fun x16 => some (x16, h13)) else (some (0, h6))) (fun J3 => (zgr h a0 7 5).bind fun x17 => (FX7_isMark T x17 p0 p1 p2 h).bind fun x19 => if x19 = 0 then (J3 1 a0) else ((FX7_in T p3.toInt64 (0 : Int64) (2 : Int64) h).bind fun x21 => if x21 = 0 then (J3 2 a0) else ((zgr h a0 7 5).bind fun x22 => (FX7_cellAt T p0 p1 h).bind fun x24 => (FX7_canDecide T x22 x24 p2 p3 h).bind fun x26 => if x26 = 0 then (J3 3 a0) else (J3 0 a0))))
set_option maxHeartbeats 4000000 in
set_option maxRecDepth 100000 in
theorem BX7_decide {X : zX} (C : zC X cX7_decide 5 RX7 "decide" (some .int) 5 114) {al : Bool} {hi : Nat} {h : zH} {a0 : Nat} {p0 : Int32} {p1 : Int32} {p2 : Int32} {p3 : Int32} {r9 : (Int32 × zH)} (hf : FX7_decide (xT X) a0 p0 p1 p2 p3 h = some r9) : zW X 5 (zZ X al (some (.int r9.1), hi, r9.2)) 0 0 al hi h 0 [(0, .ref a0), (1, .int p0), (2, .int p1), (3, .int p2), (4, .int p3)] [] := by
  unfold FX7_decide at hf
  obtain ⟨_, _, hf⟩ := zbind hf
  refine z_join (P := fun J => ∀ (x1 : Int32) (x2 : Nat), J x1 x2 = some r9 → zW X 5 (zZ X al (some (.int r9.1), hi, r9.2)) 0 0 al hi h 58 [(0, .ref a0), (1, .int p0), (2, .int p1), (3, .int p2), (4, .int p3)] [.int x1, .ref x2]) hf ?_ ?_
  · intro x1 x2 hf
    obtain ⟨x5, h6, g4, hf⟩ := zbind2 hf
    refine z_callV (kc' := 0) (ks' := 0) C (MX7_refused (xl X) (xD X) (xT X) (xlo X) al hi g4) (OX7_refused g4) rfl cw_X7_120 yv_X7_refused dX7_decide_58 rfl (by decide) ⟨rfl, rfl⟩ (Nat.le_of_ble_eq_true rfl) (st := []) rfl ?_
    refine z_if_eq (tgt := 66) C dX7_decide_61 (by decide) hf (fun hf => ?_) (fun hf => ?_)
    · refine z_aload_n C dX7_decide_66 0 rfl rfl ?_
      obtain ⟨h8, g7, hf⟩ := zbind hf
      refine z_callV (kc' := 0) (ks' := 0) C (MX7_note (xl X) (xD X) (xT X) (xlo X) al hi g7) (OX7_note g7) rfl cw_X7_206 yv_X7_note dX7_decide_67 rfl (by decide) ⟨rfl, rfl⟩ (Nat.le_of_ble_eq_true rfl) (st := []) rfl ?_
      refine z_aload_n C dX7_decide_70 0 rfl rfl ?_
      refine z_getR C fl_X7_16 dX7_decide_71 hf (fun x9 hf => ?_)
      refine z_iload_n C dX7_decide_74 1 rfl rfl ?_
      refine z_iload_n C dX7_decide_75 2 rfl rfl ?_
      obtain ⟨x11, g10, hf⟩ := zbind hf
      refine z_callS (kc' := 0) (ks' := 0) C (MX7_cellAt (xl X) (xD X) (xT X) (xlo X) al hi g10) cw_X7_66 ys_X7_cellAt dX7_decide_76 rfl (by decide) ⟨rfl, rfl⟩ (Nat.le_of_ble_eq_true rfl) (st := [.ref x9]) rfl ?_
      refine z_iload_n C dX7_decide_79 3 rfl rfl ?_
      refine z_iload C dX7_decide_80 4 rfl ?_
      obtain ⟨h13, g12, hf⟩ := zbind hf
      refine z_callS (kc' := 0) (ks' := 0) C (MX7_decideOn (xl X) (xD X) (xT X) (xlo X) al hi g12) cw_X7_217 ys_X7_decideOn dX7_decide_82 rfl (by decide) ⟨rfl, rfl⟩ (Nat.le_of_ble_eq_true rfl) (st := []) rfl ?_
      refine z_aload_n C dX7_decide_85 0 rfl rfl ?_
      refine z_getR C fl_X7_16 dX7_decide_86 hf (fun x14 hf => ?_)
      obtain ⟨x16, g15, hf⟩ := zbind hf
      refine z_callS (kc' := 0) (ks' := 0) C (MX7_doubts (xl X) (xD X) (xT X) (xlo X) al hi g15) cw_X7_175 ys_X7_doubts dX7_decide_89 rfl (by decide) ⟨rfl, rfl⟩ (Nat.le_of_ble_eq_true rfl) (st := []) rfl ?_
      exact z_ireturn C dX7_decide_92 (by cases hf; rfl)
    · refine z_iconst C (v := 0) dX7_decide_64 (by decide) ?_
      exact z_ireturn C dX7_decide_65 (by cases hf; rfl)
  · intro J3 kJ3 hf
    refine z_aload_n C dX7_decide_0 0 rfl rfl ?_
    refine z_aload_n C dX7_decide_1 0 rfl rfl ?_
    refine z_getR C fl_X7_16 dX7_decide_2 hf (fun x17 hf => ?_)
    refine z_iload_n C dX7_decide_5 1 rfl rfl ?_
    refine z_iload_n C dX7_decide_6 2 rfl rfl ?_
    refine z_iload_n C dX7_decide_7 3 rfl rfl ?_
    obtain ⟨x19, g18, hf⟩ := zbind hf
    refine z_callS (kc' := 0) (ks' := 0) C (MX7_isMark (xl X) (xD X) (xT X) (xlo X) al hi g18) cw_X7_190 ys_X7_isMark dX7_decide_8 rfl (by decide) ⟨rfl, rfl⟩ (Nat.le_of_ble_eq_true rfl) (st := [.ref a0]) rfl ?_
    refine z_if_ne (tgt := 18) C dX7_decide_11 (by decide) hf (fun hf => ?_) (fun hf => ?_)
    · refine z_iload C dX7_decide_18 4 rfl ?_
      refine z_i2l C dX7_decide_20 ?_
      refine z_lconst C (v := 0) dX7_decide_21 (by decide) ?_
      refine z_ldc2 C (v := 2) mw_1229 dX7_decide_22 ?_
      obtain ⟨x21, g20, hf⟩ := zbind hf
      refine z_callS (kc' := 0) (ks' := 0) C (MX7_in (xl X) (xD X) (xT X) (xlo X) al hi g20) cw_X7_58 ys_X7_in dX7_decide_25 rfl (by decide) ⟨rfl, rfl⟩ (Nat.le_of_ble_eq_true rfl) (st := [.ref a0]) rfl ?_
      refine z_if_ne (tgt := 35) C dX7_decide_28 (by decide) hf (fun hf => ?_) (fun hf => ?_)
      · refine z_aload_n C dX7_decide_35 0 rfl rfl ?_
        refine z_getR C fl_X7_16 dX7_decide_36 hf (fun x22 hf => ?_)
        refine z_iload_n C dX7_decide_39 1 rfl rfl ?_
        refine z_iload_n C dX7_decide_40 2 rfl rfl ?_
        obtain ⟨x24, g23, hf⟩ := zbind hf
        refine z_callS (kc' := 0) (ks' := 0) C (MX7_cellAt (xl X) (xD X) (xT X) (xlo X) al hi g23) cw_X7_66 ys_X7_cellAt dX7_decide_41 rfl (by decide) ⟨rfl, rfl⟩ (Nat.le_of_ble_eq_true rfl) (st := [.ref x22, .ref a0]) rfl ?_
        refine z_iload_n C dX7_decide_44 3 rfl rfl ?_
        refine z_iload C dX7_decide_45 4 rfl ?_
        obtain ⟨x26, g25, hf⟩ := zbind hf
        refine z_callS (kc' := 0) (ks' := 0) C (MX7_canDecide (xl X) (xD X) (xT X) (xlo X) al hi g25) cw_X7_214 ys_X7_canDecide dX7_decide_47 rfl (by decide) ⟨rfl, rfl⟩ (Nat.le_of_ble_eq_true rfl) (st := [.ref a0]) rfl ?_
        refine z_if_ne (tgt := 57) C dX7_decide_50 (by decide) hf (fun hf => ?_) (fun hf => ?_)
        · refine z_iconst C (v := 0) dX7_decide_57 (by decide) ?_
          exact kJ3 _ _ hf
        · refine z_iconst C (v := 3) dX7_decide_53 (by decide) ?_
          refine z_goto (tgt := 58) C dX7_decide_54 (by decide) ?_
          exact kJ3 _ _ hf
      · refine z_iconst C (v := 2) dX7_decide_31 (by decide) ?_
        refine z_goto (tgt := 58) C dX7_decide_32 (by decide) ?_
        exact kJ3 _ _ hf
    · refine z_iconst C (v := 1) dX7_decide_14 (by decide) ?_
      refine z_goto (tgt := 58) C dX7_decide_15 (by decide) ?_
      exact kJ3 _ _ hf
theorem MX7_decide (l : Launch) (D : va_G) (T : zT) (lo : Nat) (al : Bool) (hi : Nat) {h : zH} {a0 : Nat} {p0 : Int32} {p1 : Int32} {p2 : Int32} {p3 : Int32} {v9 : Int32} {h9 : zH} (hf : FX7_decide T a0 p0 p1 p2 p3 h = some (v9, h9)) : zM l yX7_decide (.code yX7_decide cX7_decide 5 (some .int) :: TW) ({ frames := 5, cells := 0, slots := 0, locals := 114 } : Room) D T lo al [.ref a0, .int p0, .int p1, .int p2, .int p3] hi h (some (.int v9), hi, h9) :=
  z_enter (own := RX7) (nm := "decide") (lv := [(0, .ref a0), (1, .int p0), (2, .int p1), (3, .int p2), (4, .int p3)]) (by decide +kernel) rfl rfl (Nat.le_of_ble_eq_true rfl) rfl (fun _ _ _ _ _ _ _ _ C => BX7_decide C hf)
theorem OX7_decide {T : zT} {h : zH} {a0 : Nat} {p0 : Int32} {p1 : Int32} {p2 : Int32} {p3 : Int32} {r9 : (Int32 × zH)} (hf : FX7_decide T a0 p0 p1 p2 p3 h = some r9) : ∃ fs, h a0 = some (.inr (7, fs)) := by
  obtain ⟨_, h1, _⟩ := zbind hf
  exact zo_obj h1
theorem dX7_isPen_0 : decode cX7_isPen 0 = .ok (.iload_n 0, 1) := by decide +kernel
theorem dX7_isPen_1 : decode cX7_isPen 1 = .ok (.i2l, 1) := by decide +kernel
theorem dX7_isPen_2 : decode cX7_isPen 2 = .ok (.lconst 0, 1) := by decide +kernel
theorem dX7_isPen_3 : decode cX7_isPen 3 = .ok (.ldc2_w 202, 3) := by decide +kernel
theorem dX7_isPen_6 : decode cX7_isPen 6 = .ok (.invokestatic 58, 3) := by decide +kernel
theorem dX7_isPen_9 : decode cX7_isPen 9 = .ok (.ifCond .eq 29, 3) := by decide +kernel
theorem dX7_isPen_12 : decode cX7_isPen 12 = .ok (.iload_n 1, 1) := by decide +kernel
theorem dX7_isPen_13 : decode cX7_isPen 13 = .ok (.i2l, 1) := by decide +kernel
theorem dX7_isPen_14 : decode cX7_isPen 14 = .ok (.lconst 0, 1) := by decide +kernel
theorem dX7_isPen_15 : decode cX7_isPen 15 = .ok (.ldc2_w 204, 3) := by decide +kernel
theorem dX7_isPen_18 : decode cX7_isPen 18 = .ok (.invokestatic 58, 3) := by decide +kernel
theorem dX7_isPen_21 : decode cX7_isPen 21 = .ok (.ifCond .eq 17, 3) := by decide +kernel
theorem dX7_isPen_24 : decode cX7_isPen 24 = .ok (.iload_n 2, 1) := by decide +kernel
theorem dX7_isPen_25 : decode cX7_isPen 25 = .ok (.i2l, 1) := by decide +kernel
theorem dX7_isPen_26 : decode cX7_isPen 26 = .ok (.lconst 0, 1) := by decide +kernel
theorem dX7_isPen_27 : decode cX7_isPen 27 = .ok (.lconst 1, 1) := by decide +kernel
theorem dX7_isPen_28 : decode cX7_isPen 28 = .ok (.invokestatic 58, 3) := by decide +kernel
theorem dX7_isPen_31 : decode cX7_isPen 31 = .ok (.ifCond .eq 7, 3) := by decide +kernel
theorem dX7_isPen_34 : decode cX7_isPen 34 = .ok (.iconst 1, 1) := by decide +kernel
theorem dX7_isPen_35 : decode cX7_isPen 35 = .ok (.goto 4, 3) := by decide +kernel
theorem dX7_isPen_38 : decode cX7_isPen 38 = .ok (.iconst 0, 1) := by decide +kernel
theorem dX7_isPen_39 : decode cX7_isPen 39 = .ok (.ireturn, 1) := by decide +kernel
def FX7_isPen (T : zT) (p0 : Int32) (p1 : Int32) (p2 : Int32) (h : zH) : Option Int32 := zJ (fun (x1 : Int32) => if x1 = 0 ∨ x1 = 1 then some x1 else none) (fun J2 => zJ (fun (u9 : Unit) => J2 0) (fun J3 => (FX7_in T p0.toInt64 (0 : Int64) (3 : Int64) h).bind fun x5 => if x5 = 0 then (J3 ()) else ((FX7_in T p1.toInt64 (0 : Int64) (8 : Int64) h).bind fun x7 => if x7 = 0 then (J3 ()) else ((FX7_in T p2.toInt64 (0 : Int64) (1 : Int64) h).bind fun x9 => if x9 = 0 then (J3 ()) else (J2 1)))))
set_option maxHeartbeats 4000000 in
set_option maxRecDepth 100000 in
theorem BX7_isPen {X : zX} (C : zC X cX7_isPen 3 RX7 "isPen" (some .boolean) 1 25) {al : Bool} {hi : Nat} {h : zH} {p0 : Int32} {p1 : Int32} {p2 : Int32} {r9 : Int32} (hf : FX7_isPen (xT X) p0 p1 p2 h = some r9) : zW X 3 (zZ X al (some (.int r9), hi, h)) 0 0 al hi h 0 [(0, .int p0), (1, .int p1), (2, .int p2)] [] := by
  unfold FX7_isPen at hf
  refine z_join (P := fun J => ∀ (x1 : Int32), J x1 = some r9 → zW X 3 (zZ X al (some (.int r9), hi, h)) 0 0 al hi h 39 [] [.int x1]) hf ?_ ?_
  · intro x1 hf
    refine z_ite hf (fun c hf => ?_) (fun c hf => nomatch hf)
    exact z_zreturn C dX7_isPen_39 c (by cases hf; rfl)
  · intro J2 kJ2 hf
    refine z_join (P := fun J => ∀ (u9 : Unit), J u9 = some r9 → zW X 3 (zZ X al (some (.int r9), hi, h)) 0 0 al hi h 38 [] []) hf ?_ ?_
    · intro u9 hf
      refine z_iconst C (v := 0) dX7_isPen_38 (by decide) ?_
      exact kJ2 _ hf
    · intro J3 kJ3 hf
      refine z_iload_n C dX7_isPen_0 0 rfl rfl ?_
      refine z_i2l C dX7_isPen_1 ?_
      refine z_lconst C (v := 0) dX7_isPen_2 (by decide) ?_
      refine z_ldc2 C (v := 3) mw_1212 dX7_isPen_3 ?_
      obtain ⟨x5, g4, hf⟩ := zbind hf
      refine z_callS (kc' := 0) (ks' := 0) C (MX7_in (xl X) (xD X) (xT X) (xlo X) al hi g4) cw_X7_58 ys_X7_in dX7_isPen_6 rfl (by decide) ⟨rfl, rfl⟩ (Nat.le_of_ble_eq_true rfl) (st := []) rfl ?_
      refine z_if_eq (tgt := 38) C dX7_isPen_9 (by decide) hf (fun hf => ?_) (fun hf => ?_)
      · refine z_sub [] rfl ?_
        exact kJ3 _ hf
      · refine z_iload_n C dX7_isPen_12 1 rfl rfl ?_
        refine z_i2l C dX7_isPen_13 ?_
        refine z_lconst C (v := 0) dX7_isPen_14 (by decide) ?_
        refine z_ldc2 C (v := 8) mw_1213 dX7_isPen_15 ?_
        obtain ⟨x7, g6, hf⟩ := zbind hf
        refine z_callS (kc' := 0) (ks' := 0) C (MX7_in (xl X) (xD X) (xT X) (xlo X) al hi g6) cw_X7_58 ys_X7_in dX7_isPen_18 rfl (by decide) ⟨rfl, rfl⟩ (Nat.le_of_ble_eq_true rfl) (st := []) rfl ?_
        refine z_if_eq (tgt := 38) C dX7_isPen_21 (by decide) hf (fun hf => ?_) (fun hf => ?_)
        · refine z_sub [] rfl ?_
          exact kJ3 _ hf
        · refine z_iload_n C dX7_isPen_24 2 rfl rfl ?_
          refine z_i2l C dX7_isPen_25 ?_
          refine z_lconst C (v := 0) dX7_isPen_26 (by decide) ?_
          refine z_lconst C (v := 1) dX7_isPen_27 (by decide) ?_
          obtain ⟨x9, g8, hf⟩ := zbind hf
          refine z_callS (kc' := 0) (ks' := 0) C (MX7_in (xl X) (xD X) (xT X) (xlo X) al hi g8) cw_X7_58 ys_X7_in dX7_isPen_28 rfl (by decide) ⟨rfl, rfl⟩ (Nat.le_of_ble_eq_true rfl) (st := []) rfl ?_
          refine z_if_eq (tgt := 38) C dX7_isPen_31 (by decide) hf (fun hf => ?_) (fun hf => ?_)
          · refine z_sub [] rfl ?_
            exact kJ3 _ hf
          · refine z_iconst C (v := 1) dX7_isPen_34 (by decide) ?_
            refine z_goto (tgt := 39) C dX7_isPen_35 (by decide) ?_
            refine z_sub [] rfl ?_
            exact kJ2 _ hf
theorem MX7_isPen (l : Launch) (D : va_G) (T : zT) (lo : Nat) (al : Bool) (hi : Nat) {h : zH} {p0 : Int32} {p1 : Int32} {p2 : Int32} {v9 : Int32} (hf : FX7_isPen T p0 p1 p2 h = some v9) : zM l yX7_isPen (.code yX7_isPen cX7_isPen 3 (some .boolean) :: TW) ({ frames := 1, cells := 0, slots := 0, locals := 25 } : Room) D T lo al [.int p0, .int p1, .int p2] hi h (some (.int v9), hi, h) :=
  z_enter (own := RX7) (nm := "isPen") (lv := [(0, .int p0), (1, .int p1), (2, .int p2)]) (by decide +kernel) rfl rfl (Nat.le_of_ble_eq_true rfl) rfl (fun _ _ _ _ _ _ _ _ C => BX7_isPen C hf)
theorem dX7_setLetter_0 : decode cX7_setLetter 0 = .ok (.aload_n 0, 1) := by decide +kernel
theorem dX7_setLetter_1 : decode cX7_setLetter 1 = .ok (.iload_n 1, 1) := by decide +kernel
theorem dX7_setLetter_2 : decode cX7_setLetter 2 = .ok (.invokestatic 182, 3) := by decide +kernel
theorem dX7_setLetter_5 : decode cX7_setLetter 5 = .ok (.ifCond .ne 7, 3) := by decide +kernel
theorem dX7_setLetter_8 : decode cX7_setLetter 8 = .ok (.iconst 1, 1) := by decide +kernel
theorem dX7_setLetter_9 : decode cX7_setLetter 9 = .ok (.goto 18, 3) := by decide +kernel
theorem dX7_setLetter_12 : decode cX7_setLetter 12 = .ok (.iload_n 2, 1) := by decide +kernel
theorem dX7_setLetter_13 : decode cX7_setLetter 13 = .ok (.iload_n 3, 1) := by decide +kernel
theorem dX7_setLetter_14 : decode cX7_setLetter 14 = .ok (.iload 4, 2) := by decide +kernel
theorem dX7_setLetter_16 : decode cX7_setLetter 16 = .ok (.invokestatic 221, 3) := by decide +kernel
theorem dX7_setLetter_19 : decode cX7_setLetter 19 = .ok (.ifCond .ne 7, 3) := by decide +kernel
theorem dX7_setLetter_22 : decode cX7_setLetter 22 = .ok (.iconst 2, 1) := by decide +kernel
theorem dX7_setLetter_23 : decode cX7_setLetter 23 = .ok (.goto 4, 3) := by decide +kernel
theorem dX7_setLetter_26 : decode cX7_setLetter 26 = .ok (.iconst 0, 1) := by decide +kernel
theorem dX7_setLetter_27 : decode cX7_setLetter 27 = .ok (.invokevirtual 120, 3) := by decide +kernel
theorem dX7_setLetter_30 : decode cX7_setLetter 30 = .ok (.ifCond .eq 5, 3) := by decide +kernel
theorem dX7_setLetter_33 : decode cX7_setLetter 33 = .ok (.iconst 0, 1) := by decide +kernel
theorem dX7_setLetter_34 : decode cX7_setLetter 34 = .ok (.ireturn, 1) := by decide +kernel
theorem dX7_setLetter_35 : decode cX7_setLetter 35 = .ok (.aload_n 0, 1) := by decide +kernel
theorem dX7_setLetter_36 : decode cX7_setLetter 36 = .ok (.invokevirtual 206, 3) := by decide +kernel
theorem dX7_setLetter_39 : decode cX7_setLetter 39 = .ok (.aload_n 0, 1) := by decide +kernel
theorem dX7_setLetter_40 : decode cX7_setLetter 40 = .ok (.getfield 16, 3) := by decide +kernel
theorem dX7_setLetter_43 : decode cX7_setLetter 43 = .ok (.iload_n 1, 1) := by decide +kernel
theorem dX7_setLetter_44 : decode cX7_setLetter 44 = .ok (.iload_n 2, 1) := by decide +kernel
theorem dX7_setLetter_45 : decode cX7_setLetter 45 = .ok (.iload_n 3, 1) := by decide +kernel
theorem dX7_setLetter_46 : decode cX7_setLetter 46 = .ok (.iload 4, 2) := by decide +kernel
theorem dX7_setLetter_48 : decode cX7_setLetter 48 = .ok (.invokestatic 111, 3) := by decide +kernel
theorem dX7_setLetter_51 : decode cX7_setLetter 51 = .ok (.aload_n 0, 1) := by decide +kernel
theorem dX7_setLetter_52 : decode cX7_setLetter 52 = .ok (.getfield 16, 3) := by decide +kernel
theorem dX7_setLetter_55 : decode cX7_setLetter 55 = .ok (.invokestatic 175, 3) := by decide +kernel
theorem dX7_setLetter_58 : decode cX7_setLetter 58 = .ok (.ireturn, 1) := by decide +kernel
def FX7_setLetter (T : zT) (a0 : Nat) (p0 : Int32) (p1 : Int32) (p2 : Int32) (p3 : Int32) (h : zH) : Option (Int32 × zH) := (zo h a0 7).bind fun _ => zJ (fun (x1 : Int32) (x2 : Nat) => zb2 (FX7_refused T x2 x1 h) fun x5 h6 => if x5 = 0 then ((FX7_note T a0 h6).bind fun h8 => (zgr h8 a0 7 5).bind fun x9 => (FX7_penOn T x9 p0 p1 p2 p3 h8).bind fun h11 => (zgr h11 a0 7 5).bind fun x12 => (FX7_doubts T x12 h11).bind fun x14 => some (x14, h11)) else (some (0, h6))) (fun J3 => (FX7_isLetter T p0 h).bind fun x16 => if x16 = 0 then (J3 1 a0) else ((FX7_isPen T p1 p2 p3 h).bind fun x18 => if x18 = 0 then (J3 2 a0) else (J3 0 a0)))
set_option maxHeartbeats 4000000 in
set_option maxRecDepth 100000 in
theorem BX7_setLetter {X : zX} (C : zC X cX7_setLetter 5 RX7 "setLetter" (some .int) 5 114) {al : Bool} {hi : Nat} {h : zH} {a0 : Nat} {p0 : Int32} {p1 : Int32} {p2 : Int32} {p3 : Int32} {r9 : (Int32 × zH)} (hf : FX7_setLetter (xT X) a0 p0 p1 p2 p3 h = some r9) : zW X 5 (zZ X al (some (.int r9.1), hi, r9.2)) 0 0 al hi h 0 [(0, .ref a0), (1, .int p0), (2, .int p1), (3, .int p2), (4, .int p3)] [] := by
  unfold FX7_setLetter at hf
  obtain ⟨_, _, hf⟩ := zbind hf
  refine z_join (P := fun J => ∀ (x1 : Int32) (x2 : Nat), J x1 x2 = some r9 → zW X 5 (zZ X al (some (.int r9.1), hi, r9.2)) 0 0 al hi h 27 [(0, .ref a0), (1, .int p0), (2, .int p1), (3, .int p2), (4, .int p3)] [.int x1, .ref x2]) hf ?_ ?_
  · intro x1 x2 hf
    obtain ⟨x5, h6, g4, hf⟩ := zbind2 hf
    refine z_callV (kc' := 0) (ks' := 0) C (MX7_refused (xl X) (xD X) (xT X) (xlo X) al hi g4) (OX7_refused g4) rfl cw_X7_120 yv_X7_refused dX7_setLetter_27 rfl (by decide) ⟨rfl, rfl⟩ (Nat.le_of_ble_eq_true rfl) (st := []) rfl ?_
    refine z_if_eq (tgt := 35) C dX7_setLetter_30 (by decide) hf (fun hf => ?_) (fun hf => ?_)
    · refine z_aload_n C dX7_setLetter_35 0 rfl rfl ?_
      obtain ⟨h8, g7, hf⟩ := zbind hf
      refine z_callV (kc' := 0) (ks' := 0) C (MX7_note (xl X) (xD X) (xT X) (xlo X) al hi g7) (OX7_note g7) rfl cw_X7_206 yv_X7_note dX7_setLetter_36 rfl (by decide) ⟨rfl, rfl⟩ (Nat.le_of_ble_eq_true rfl) (st := []) rfl ?_
      refine z_aload_n C dX7_setLetter_39 0 rfl rfl ?_
      refine z_getR C fl_X7_16 dX7_setLetter_40 hf (fun x9 hf => ?_)
      refine z_iload_n C dX7_setLetter_43 1 rfl rfl ?_
      refine z_iload_n C dX7_setLetter_44 2 rfl rfl ?_
      refine z_iload_n C dX7_setLetter_45 3 rfl rfl ?_
      refine z_iload C dX7_setLetter_46 4 rfl ?_
      obtain ⟨h11, g10, hf⟩ := zbind hf
      refine z_callS (kc' := 0) (ks' := 0) C (MX7_penOn (xl X) (xD X) (xT X) (xlo X) al hi g10) cw_X7_111 ys_X7_penOn dX7_setLetter_48 rfl (by decide) ⟨rfl, rfl⟩ (Nat.le_of_ble_eq_true rfl) (st := []) rfl ?_
      refine z_aload_n C dX7_setLetter_51 0 rfl rfl ?_
      refine z_getR C fl_X7_16 dX7_setLetter_52 hf (fun x12 hf => ?_)
      obtain ⟨x14, g13, hf⟩ := zbind hf
      refine z_callS (kc' := 0) (ks' := 0) C (MX7_doubts (xl X) (xD X) (xT X) (xlo X) al hi g13) cw_X7_175 ys_X7_doubts dX7_setLetter_55 rfl (by decide) ⟨rfl, rfl⟩ (Nat.le_of_ble_eq_true rfl) (st := []) rfl ?_
      exact z_ireturn C dX7_setLetter_58 (by cases hf; rfl)
    · refine z_iconst C (v := 0) dX7_setLetter_33 (by decide) ?_
      exact z_ireturn C dX7_setLetter_34 (by cases hf; rfl)
  · intro J3 kJ3 hf
    refine z_aload_n C dX7_setLetter_0 0 rfl rfl ?_
    refine z_iload_n C dX7_setLetter_1 1 rfl rfl ?_
    obtain ⟨x16, g15, hf⟩ := zbind hf
    refine z_callS (kc' := 0) (ks' := 0) C (MX7_isLetter (xl X) (xD X) (xT X) (xlo X) al hi g15) cw_X7_182 ys_X7_isLetter dX7_setLetter_2 rfl (by decide) ⟨rfl, rfl⟩ (Nat.le_of_ble_eq_true rfl) (st := [.ref a0]) rfl ?_
    refine z_if_ne (tgt := 12) C dX7_setLetter_5 (by decide) hf (fun hf => ?_) (fun hf => ?_)
    · refine z_iload_n C dX7_setLetter_12 2 rfl rfl ?_
      refine z_iload_n C dX7_setLetter_13 3 rfl rfl ?_
      refine z_iload C dX7_setLetter_14 4 rfl ?_
      obtain ⟨x18, g17, hf⟩ := zbind hf
      refine z_callS (kc' := 0) (ks' := 0) C (MX7_isPen (xl X) (xD X) (xT X) (xlo X) al hi g17) cw_X7_221 ys_X7_isPen dX7_setLetter_16 rfl (by decide) ⟨rfl, rfl⟩ (Nat.le_of_ble_eq_true rfl) (st := [.ref a0]) rfl ?_
      refine z_if_ne (tgt := 26) C dX7_setLetter_19 (by decide) hf (fun hf => ?_) (fun hf => ?_)
      · refine z_iconst C (v := 0) dX7_setLetter_26 (by decide) ?_
        exact kJ3 _ _ hf
      · refine z_iconst C (v := 2) dX7_setLetter_22 (by decide) ?_
        refine z_goto (tgt := 27) C dX7_setLetter_23 (by decide) ?_
        exact kJ3 _ _ hf
    · refine z_iconst C (v := 1) dX7_setLetter_8 (by decide) ?_
      refine z_goto (tgt := 27) C dX7_setLetter_9 (by decide) ?_
      exact kJ3 _ _ hf
theorem MX7_setLetter (l : Launch) (D : va_G) (T : zT) (lo : Nat) (al : Bool) (hi : Nat) {h : zH} {a0 : Nat} {p0 : Int32} {p1 : Int32} {p2 : Int32} {p3 : Int32} {v9 : Int32} {h9 : zH} (hf : FX7_setLetter T a0 p0 p1 p2 p3 h = some (v9, h9)) : zM l yX7_setLetter (.code yX7_setLetter cX7_setLetter 5 (some .int) :: TW) ({ frames := 5, cells := 0, slots := 0, locals := 114 } : Room) D T lo al [.ref a0, .int p0, .int p1, .int p2, .int p3] hi h (some (.int v9), hi, h9) :=
  z_enter (own := RX7) (nm := "setLetter") (lv := [(0, .ref a0), (1, .int p0), (2, .int p1), (3, .int p2), (4, .int p3)]) (by decide +kernel) rfl rfl (Nat.le_of_ble_eq_true rfl) rfl (fun _ _ _ _ _ _ _ _ C => BX7_setLetter C hf)
theorem OX7_setLetter {T : zT} {h : zH} {a0 : Nat} {p0 : Int32} {p1 : Int32} {p2 : Int32} {p3 : Int32} {r9 : (Int32 × zH)} (hf : FX7_setLetter T a0 p0 p1 p2 p3 h = some r9) : ∃ fs, h a0 = some (.inr (7, fs)) := by
  obtain ⟨_, h1, _⟩ := zbind hf
  exact zo_obj h1
theorem dX7_setMargin_0 : decode cX7_setMargin 0 = .ok (.aload_n 0, 1) := by decide +kernel
theorem dX7_setMargin_1 : decode cX7_setMargin 1 = .ok (.iload_n 1, 1) := by decide +kernel
theorem dX7_setMargin_2 : decode cX7_setMargin 2 = .ok (.i2l, 1) := by decide +kernel
theorem dX7_setMargin_3 : decode cX7_setMargin 3 = .ok (.lconst 0, 1) := by decide +kernel
theorem dX7_setMargin_4 : decode cX7_setMargin 4 = .ok (.ldc2_w 127, 3) := by decide +kernel
theorem dX7_setMargin_7 : decode cX7_setMargin 7 = .ok (.invokestatic 58, 3) := by decide +kernel
theorem dX7_setMargin_10 : decode cX7_setMargin 10 = .ok (.ifCond .eq 7, 3) := by decide +kernel
theorem dX7_setMargin_13 : decode cX7_setMargin 13 = .ok (.iconst 0, 1) := by decide +kernel
theorem dX7_setMargin_14 : decode cX7_setMargin 14 = .ok (.goto 4, 3) := by decide +kernel
theorem dX7_setMargin_17 : decode cX7_setMargin 17 = .ok (.iconst 1, 1) := by decide +kernel
theorem dX7_setMargin_18 : decode cX7_setMargin 18 = .ok (.invokevirtual 120, 3) := by decide +kernel
theorem dX7_setMargin_21 : decode cX7_setMargin 21 = .ok (.ifCond .eq 5, 3) := by decide +kernel
theorem dX7_setMargin_24 : decode cX7_setMargin 24 = .ok (.iconst 0, 1) := by decide +kernel
theorem dX7_setMargin_25 : decode cX7_setMargin 25 = .ok (.ireturn, 1) := by decide +kernel
theorem dX7_setMargin_26 : decode cX7_setMargin 26 = .ok (.aload_n 0, 1) := by decide +kernel
theorem dX7_setMargin_27 : decode cX7_setMargin 27 = .ok (.invokevirtual 206, 3) := by decide +kernel
theorem dX7_setMargin_30 : decode cX7_setMargin 30 = .ok (.aload_n 0, 1) := by decide +kernel
theorem dX7_setMargin_31 : decode cX7_setMargin 31 = .ok (.getfield 16, 3) := by decide +kernel
theorem dX7_setMargin_34 : decode cX7_setMargin 34 = .ok (.iconst 2, 1) := by decide +kernel
theorem dX7_setMargin_35 : decode cX7_setMargin 35 = .ok (.iaload, 1) := by decide +kernel
theorem dX7_setMargin_36 : decode cX7_setMargin 36 = .ok (.istore_n 2, 1) := by decide +kernel
theorem dX7_setMargin_37 : decode cX7_setMargin 37 = .ok (.aload_n 0, 1) := by decide +kernel
theorem dX7_setMargin_38 : decode cX7_setMargin 38 = .ok (.getfield 16, 3) := by decide +kernel
theorem dX7_setMargin_41 : decode cX7_setMargin 41 = .ok (.iconst 2, 1) := by decide +kernel
theorem dX7_setMargin_42 : decode cX7_setMargin 42 = .ok (.iload_n 1, 1) := by decide +kernel
theorem dX7_setMargin_43 : decode cX7_setMargin 43 = .ok (.iastore, 1) := by decide +kernel
theorem dX7_setMargin_44 : decode cX7_setMargin 44 = .ok (.iload_n 2, 1) := by decide +kernel
theorem dX7_setMargin_45 : decode cX7_setMargin 45 = .ok (.ireturn, 1) := by decide +kernel
def FX7_setMargin (T : zT) (a0 : Nat) (p0 : Int32) (h : zH) : Option (Int32 × zH) := (zo h a0 7).bind fun _ => zJ (fun (x1 : Int32) (x2 : Nat) => zb2 (FX7_refused T x2 x1 h) fun x5 h6 => if x5 = 0 then ((FX7_note T a0 h6).bind fun h8 => (zgr h8 a0 7 5).bind fun x9 => (zai T h8 x9 2).bind fun x10 => (zgr h8 a0 7 5).bind fun x11 => (zas T h8 x11 2 p0).bind fun h12 => some (x10, h12)) else (some (0, h6))) (fun J3 => (FX7_in T p0.toInt64 (0 : Int64) (9 : Int64) h).bind fun x14 => if x14 = 0 then (J3 1 a0) else (J3 0 a0))
set_option maxHeartbeats 4000000 in
set_option maxRecDepth 100000 in
theorem BX7_setMargin {X : zX} (C : zC X cX7_setMargin 3 RX7 "setMargin" (some .int) 2 45) {al : Bool} {hi : Nat} {h : zH} {a0 : Nat} {p0 : Int32} {r9 : (Int32 × zH)} (hf : FX7_setMargin (xT X) a0 p0 h = some r9) : zW X 3 (zZ X al (some (.int r9.1), hi, r9.2)) 0 0 al hi h 0 [(0, .ref a0), (1, .int p0)] [] := by
  unfold FX7_setMargin at hf
  obtain ⟨_, _, hf⟩ := zbind hf
  refine z_join (P := fun J => ∀ (x1 : Int32) (x2 : Nat), J x1 x2 = some r9 → zW X 3 (zZ X al (some (.int r9.1), hi, r9.2)) 0 0 al hi h 18 [(0, .ref a0), (1, .int p0)] [.int x1, .ref x2]) hf ?_ ?_
  · intro x1 x2 hf
    obtain ⟨x5, h6, g4, hf⟩ := zbind2 hf
    refine z_callV (kc' := 0) (ks' := 0) C (MX7_refused (xl X) (xD X) (xT X) (xlo X) al hi g4) (OX7_refused g4) rfl cw_X7_120 yv_X7_refused dX7_setMargin_18 rfl (by decide) ⟨rfl, rfl⟩ (Nat.le_of_ble_eq_true rfl) (st := []) rfl ?_
    refine z_if_eq (tgt := 26) C dX7_setMargin_21 (by decide) hf (fun hf => ?_) (fun hf => ?_)
    · refine z_aload_n C dX7_setMargin_26 0 rfl rfl ?_
      obtain ⟨h8, g7, hf⟩ := zbind hf
      refine z_callV (kc' := 0) (ks' := 0) C (MX7_note (xl X) (xD X) (xT X) (xlo X) al hi g7) (OX7_note g7) rfl cw_X7_206 yv_X7_note dX7_setMargin_27 rfl (by decide) ⟨rfl, rfl⟩ (Nat.le_of_ble_eq_true rfl) (st := []) rfl ?_
      refine z_aload_n C dX7_setMargin_30 0 rfl rfl ?_
      refine z_getR C fl_X7_16 dX7_setMargin_31 hf (fun x9 hf => ?_)
      refine z_iconst C (v := 2) dX7_setMargin_34 (by decide) ?_
      refine z_iaload C dX7_setMargin_35 hf (fun x10 hf => ?_)
      refine z_istore_n C dX7_setMargin_36 rfl (by decide) (lv' := [(2, .int x10), (0, .ref a0), (1, .int p0)]) rfl ?_
      refine z_aload_n C dX7_setMargin_37 1 rfl rfl ?_
      refine z_getR C fl_X7_16 dX7_setMargin_38 hf (fun x11 hf => ?_)
      refine z_iconst C (v := 2) dX7_setMargin_41 (by decide) ?_
      refine z_iload_n C dX7_setMargin_42 2 rfl rfl ?_
      refine z_iastore C dX7_setMargin_43 hf (fun h12 hf => ?_)
      refine z_iload_n C dX7_setMargin_44 0 rfl rfl ?_
      exact z_ireturn C dX7_setMargin_45 (by cases hf; rfl)
    · refine z_iconst C (v := 0) dX7_setMargin_24 (by decide) ?_
      exact z_ireturn C dX7_setMargin_25 (by cases hf; rfl)
  · intro J3 kJ3 hf
    refine z_aload_n C dX7_setMargin_0 0 rfl rfl ?_
    refine z_iload_n C dX7_setMargin_1 1 rfl rfl ?_
    refine z_i2l C dX7_setMargin_2 ?_
    refine z_lconst C (v := 0) dX7_setMargin_3 (by decide) ?_
    refine z_ldc2 C (v := 9) mw_1075 dX7_setMargin_4 ?_
    obtain ⟨x14, g13, hf⟩ := zbind hf
    refine z_callS (kc' := 0) (ks' := 0) C (MX7_in (xl X) (xD X) (xT X) (xlo X) al hi g13) cw_X7_58 ys_X7_in dX7_setMargin_7 rfl (by decide) ⟨rfl, rfl⟩ (Nat.le_of_ble_eq_true rfl) (st := [.ref a0]) rfl ?_
    refine z_if_eq (tgt := 17) C dX7_setMargin_10 (by decide) hf (fun hf => ?_) (fun hf => ?_)
    · refine z_iconst C (v := 1) dX7_setMargin_17 (by decide) ?_
      exact kJ3 _ _ hf
    · refine z_iconst C (v := 0) dX7_setMargin_13 (by decide) ?_
      refine z_goto (tgt := 18) C dX7_setMargin_14 (by decide) ?_
      exact kJ3 _ _ hf
theorem MX7_setMargin (l : Launch) (D : va_G) (T : zT) (lo : Nat) (al : Bool) (hi : Nat) {h : zH} {a0 : Nat} {p0 : Int32} {v9 : Int32} {h9 : zH} (hf : FX7_setMargin T a0 p0 h = some (v9, h9)) : zM l yX7_setMargin (.code yX7_setMargin cX7_setMargin 3 (some .int) :: TW) ({ frames := 2, cells := 0, slots := 0, locals := 45 } : Room) D T lo al [.ref a0, .int p0] hi h (some (.int v9), hi, h9) :=
  z_enter (own := RX7) (nm := "setMargin") (lv := [(0, .ref a0), (1, .int p0)]) (by decide +kernel) rfl rfl (Nat.le_of_ble_eq_true rfl) rfl (fun _ _ _ _ _ _ _ _ C => BX7_setMargin C hf)
theorem OX7_setMargin {T : zT} {h : zH} {a0 : Nat} {p0 : Int32} {r9 : (Int32 × zH)} (hf : FX7_setMargin T a0 p0 h = some r9) : ∃ fs, h a0 = some (.inr (7, fs)) := by
  obtain ⟨_, h1, _⟩ := zbind hf
  exact zo_obj h1
theorem dX7_setGap_0 : decode cX7_setGap 0 = .ok (.aload_n 0, 1) := by decide +kernel
theorem dX7_setGap_1 : decode cX7_setGap 1 = .ok (.iload_n 1, 1) := by decide +kernel
theorem dX7_setGap_2 : decode cX7_setGap 2 = .ok (.i2l, 1) := by decide +kernel
theorem dX7_setGap_3 : decode cX7_setGap 3 = .ok (.lconst 1, 1) := by decide +kernel
theorem dX7_setGap_4 : decode cX7_setGap 4 = .ok (.ldc2_w 202, 3) := by decide +kernel
theorem dX7_setGap_7 : decode cX7_setGap 7 = .ok (.invokestatic 58, 3) := by decide +kernel
theorem dX7_setGap_10 : decode cX7_setGap 10 = .ok (.ifCond .eq 7, 3) := by decide +kernel
theorem dX7_setGap_13 : decode cX7_setGap 13 = .ok (.iconst 0, 1) := by decide +kernel
theorem dX7_setGap_14 : decode cX7_setGap 14 = .ok (.goto 4, 3) := by decide +kernel
theorem dX7_setGap_17 : decode cX7_setGap 17 = .ok (.iconst 1, 1) := by decide +kernel
theorem dX7_setGap_18 : decode cX7_setGap 18 = .ok (.invokevirtual 120, 3) := by decide +kernel
theorem dX7_setGap_21 : decode cX7_setGap 21 = .ok (.ifCond .eq 5, 3) := by decide +kernel
theorem dX7_setGap_24 : decode cX7_setGap 24 = .ok (.iconst 0, 1) := by decide +kernel
theorem dX7_setGap_25 : decode cX7_setGap 25 = .ok (.ireturn, 1) := by decide +kernel
theorem dX7_setGap_26 : decode cX7_setGap 26 = .ok (.aload_n 0, 1) := by decide +kernel
theorem dX7_setGap_27 : decode cX7_setGap 27 = .ok (.invokevirtual 206, 3) := by decide +kernel
theorem dX7_setGap_30 : decode cX7_setGap 30 = .ok (.aload_n 0, 1) := by decide +kernel
theorem dX7_setGap_31 : decode cX7_setGap 31 = .ok (.getfield 16, 3) := by decide +kernel
theorem dX7_setGap_34 : decode cX7_setGap 34 = .ok (.iconst 3, 1) := by decide +kernel
theorem dX7_setGap_35 : decode cX7_setGap 35 = .ok (.iaload, 1) := by decide +kernel
theorem dX7_setGap_36 : decode cX7_setGap 36 = .ok (.istore_n 2, 1) := by decide +kernel
theorem dX7_setGap_37 : decode cX7_setGap 37 = .ok (.aload_n 0, 1) := by decide +kernel
theorem dX7_setGap_38 : decode cX7_setGap 38 = .ok (.getfield 16, 3) := by decide +kernel
theorem dX7_setGap_41 : decode cX7_setGap 41 = .ok (.iconst 3, 1) := by decide +kernel
theorem dX7_setGap_42 : decode cX7_setGap 42 = .ok (.iload_n 1, 1) := by decide +kernel
theorem dX7_setGap_43 : decode cX7_setGap 43 = .ok (.iastore, 1) := by decide +kernel
theorem dX7_setGap_44 : decode cX7_setGap 44 = .ok (.iload_n 2, 1) := by decide +kernel
theorem dX7_setGap_45 : decode cX7_setGap 45 = .ok (.ireturn, 1) := by decide +kernel
def FX7_setGap (T : zT) (a0 : Nat) (p0 : Int32) (h : zH) : Option (Int32 × zH) := (zo h a0 7).bind fun _ => zJ (fun (x1 : Int32) (x2 : Nat) => zb2 (FX7_refused T x2 x1 h) fun x5 h6 => if x5 = 0 then ((FX7_note T a0 h6).bind fun h8 => (zgr h8 a0 7 5).bind fun x9 => (zai T h8 x9 3).bind fun x10 => (zgr h8 a0 7 5).bind fun x11 => (zas T h8 x11 3 p0).bind fun h12 => some (x10, h12)) else (some (0, h6))) (fun J3 => (FX7_in T p0.toInt64 (1 : Int64) (3 : Int64) h).bind fun x14 => if x14 = 0 then (J3 1 a0) else (J3 0 a0))
set_option maxHeartbeats 4000000 in
set_option maxRecDepth 100000 in
theorem BX7_setGap {X : zX} (C : zC X cX7_setGap 3 RX7 "setGap" (some .int) 2 45) {al : Bool} {hi : Nat} {h : zH} {a0 : Nat} {p0 : Int32} {r9 : (Int32 × zH)} (hf : FX7_setGap (xT X) a0 p0 h = some r9) : zW X 3 (zZ X al (some (.int r9.1), hi, r9.2)) 0 0 al hi h 0 [(0, .ref a0), (1, .int p0)] [] := by
  unfold FX7_setGap at hf
  obtain ⟨_, _, hf⟩ := zbind hf
  refine z_join (P := fun J => ∀ (x1 : Int32) (x2 : Nat), J x1 x2 = some r9 → zW X 3 (zZ X al (some (.int r9.1), hi, r9.2)) 0 0 al hi h 18 [(0, .ref a0), (1, .int p0)] [.int x1, .ref x2]) hf ?_ ?_
  · intro x1 x2 hf
    obtain ⟨x5, h6, g4, hf⟩ := zbind2 hf
    refine z_callV (kc' := 0) (ks' := 0) C (MX7_refused (xl X) (xD X) (xT X) (xlo X) al hi g4) (OX7_refused g4) rfl cw_X7_120 yv_X7_refused dX7_setGap_18 rfl (by decide) ⟨rfl, rfl⟩ (Nat.le_of_ble_eq_true rfl) (st := []) rfl ?_
    refine z_if_eq (tgt := 26) C dX7_setGap_21 (by decide) hf (fun hf => ?_) (fun hf => ?_)
    · refine z_aload_n C dX7_setGap_26 0 rfl rfl ?_
      obtain ⟨h8, g7, hf⟩ := zbind hf
      refine z_callV (kc' := 0) (ks' := 0) C (MX7_note (xl X) (xD X) (xT X) (xlo X) al hi g7) (OX7_note g7) rfl cw_X7_206 yv_X7_note dX7_setGap_27 rfl (by decide) ⟨rfl, rfl⟩ (Nat.le_of_ble_eq_true rfl) (st := []) rfl ?_
      refine z_aload_n C dX7_setGap_30 0 rfl rfl ?_
      refine z_getR C fl_X7_16 dX7_setGap_31 hf (fun x9 hf => ?_)
      refine z_iconst C (v := 3) dX7_setGap_34 (by decide) ?_
      refine z_iaload C dX7_setGap_35 hf (fun x10 hf => ?_)
      refine z_istore_n C dX7_setGap_36 rfl (by decide) (lv' := [(2, .int x10), (0, .ref a0), (1, .int p0)]) rfl ?_
      refine z_aload_n C dX7_setGap_37 1 rfl rfl ?_
      refine z_getR C fl_X7_16 dX7_setGap_38 hf (fun x11 hf => ?_)
      refine z_iconst C (v := 3) dX7_setGap_41 (by decide) ?_
      refine z_iload_n C dX7_setGap_42 2 rfl rfl ?_
      refine z_iastore C dX7_setGap_43 hf (fun h12 hf => ?_)
      refine z_iload_n C dX7_setGap_44 0 rfl rfl ?_
      exact z_ireturn C dX7_setGap_45 (by cases hf; rfl)
    · refine z_iconst C (v := 0) dX7_setGap_24 (by decide) ?_
      exact z_ireturn C dX7_setGap_25 (by cases hf; rfl)
  · intro J3 kJ3 hf
    refine z_aload_n C dX7_setGap_0 0 rfl rfl ?_
    refine z_iload_n C dX7_setGap_1 1 rfl rfl ?_
    refine z_i2l C dX7_setGap_2 ?_
    refine z_lconst C (v := 1) dX7_setGap_3 (by decide) ?_
    refine z_ldc2 C (v := 3) mw_1212 dX7_setGap_4 ?_
    obtain ⟨x14, g13, hf⟩ := zbind hf
    refine z_callS (kc' := 0) (ks' := 0) C (MX7_in (xl X) (xD X) (xT X) (xlo X) al hi g13) cw_X7_58 ys_X7_in dX7_setGap_7 rfl (by decide) ⟨rfl, rfl⟩ (Nat.le_of_ble_eq_true rfl) (st := [.ref a0]) rfl ?_
    refine z_if_eq (tgt := 17) C dX7_setGap_10 (by decide) hf (fun hf => ?_) (fun hf => ?_)
    · refine z_iconst C (v := 1) dX7_setGap_17 (by decide) ?_
      exact kJ3 _ _ hf
    · refine z_iconst C (v := 0) dX7_setGap_13 (by decide) ?_
      refine z_goto (tgt := 18) C dX7_setGap_14 (by decide) ?_
      exact kJ3 _ _ hf
theorem MX7_setGap (l : Launch) (D : va_G) (T : zT) (lo : Nat) (al : Bool) (hi : Nat) {h : zH} {a0 : Nat} {p0 : Int32} {v9 : Int32} {h9 : zH} (hf : FX7_setGap T a0 p0 h = some (v9, h9)) : zM l yX7_setGap (.code yX7_setGap cX7_setGap 3 (some .int) :: TW) ({ frames := 2, cells := 0, slots := 0, locals := 45 } : Room) D T lo al [.ref a0, .int p0] hi h (some (.int v9), hi, h9) :=
  z_enter (own := RX7) (nm := "setGap") (lv := [(0, .ref a0), (1, .int p0)]) (by decide +kernel) rfl rfl (Nat.le_of_ble_eq_true rfl) rfl (fun _ _ _ _ _ _ _ _ C => BX7_setGap C hf)
theorem OX7_setGap {T : zT} {h : zH} {a0 : Nat} {p0 : Int32} {r9 : (Int32 × zH)} (hf : FX7_setGap T a0 p0 h = some r9) : ∃ fs, h a0 = some (.inr (7, fs)) := by
  obtain ⟨_, h1, _⟩ := zbind hf
  exact zo_obj h1
theorem dX7_turn_0 : decode cX7_turn 0 = .ok (.aload_n 0, 1) := by decide +kernel
theorem dX7_turn_1 : decode cX7_turn 1 = .ok (.iconst 0, 1) := by decide +kernel
theorem dX7_turn_2 : decode cX7_turn 2 = .ok (.putfield 54, 3) := by decide +kernel
theorem dX7_turn_5 : decode cX7_turn 5 = .ok (.aload_n 0, 1) := by decide +kernel
theorem dX7_turn_6 : decode cX7_turn 6 = .ok (.invokevirtual 206, 3) := by decide +kernel
theorem dX7_turn_9 : decode cX7_turn 9 = .ok (.aload_n 0, 1) := by decide +kernel
theorem dX7_turn_10 : decode cX7_turn 10 = .ok (.aload_n 0, 1) := by decide +kernel
theorem dX7_turn_11 : decode cX7_turn 11 = .ok (.getfield 16, 3) := by decide +kernel
theorem dX7_turn_14 : decode cX7_turn 14 = .ok (.invokevirtual 224, 3) := by decide +kernel
theorem dX7_turn_17 : decode cX7_turn 17 = .ok (.aload_n 0, 1) := by decide +kernel
theorem dX7_turn_18 : decode cX7_turn 18 = .ok (.aload_n 0, 1) := by decide +kernel
theorem dX7_turn_19 : decode cX7_turn 19 = .ok (.getfield 16, 3) := by decide +kernel
theorem dX7_turn_22 : decode cX7_turn 22 = .ok (.invokestatic 228, 3) := by decide +kernel
theorem dX7_turn_25 : decode cX7_turn 25 = .ok (.ireturn, 1) := by decide +kernel
def FX7_turn (T : zT) (a0 : Nat) (h : zH) : Option (Int32 × zH) := (zo h a0 7).bind fun _ => (zpv h a0 7 0 (.int 0)).bind fun h1 => (FX7_note T a0 h1).bind fun h3 => (zgr h3 a0 7 5).bind fun x4 => (FX7_turnOn T a0 x4 h3).bind fun h6 => (zgr h6 a0 7 5).bind fun x7 => zb2 (FX7_allWords T a0 x7 h6) fun x9 h10 => some (x9, h10)
set_option maxHeartbeats 4000000 in
set_option maxRecDepth 100000 in
theorem BX7_turn {X : zX} (C : zC X cX7_turn 1 RX7 "turn" (some .int) 7 170) {al : Bool} {hi : Nat} {h : zH} {a0 : Nat} {r9 : (Int32 × zH)} (hf : FX7_turn (xT X) a0 h = some r9) : zW X 1 (zZ X al (some (.int r9.1), hi, r9.2)) 0 0 al hi h 0 [(0, .ref a0)] [] := by
  unfold FX7_turn at hf
  obtain ⟨_, _, hf⟩ := zbind hf
  refine z_aload_n C dX7_turn_0 0 rfl rfl ?_
  refine z_iconst C (v := 0) dX7_turn_1 (by decide) ?_
  refine z_put C fl_X7_54 dX7_turn_2 rfl rfl hf (fun h1 hf => ?_)
  refine z_aload_n C dX7_turn_5 0 rfl rfl ?_
  obtain ⟨h3, g2, hf⟩ := zbind hf
  refine z_callV (kc' := 0) (ks' := 0) C (MX7_note (xl X) (xD X) (xT X) (xlo X) al hi g2) (OX7_note g2) rfl cw_X7_206 yv_X7_note dX7_turn_6 rfl (by decide) ⟨rfl, rfl⟩ (Nat.le_of_ble_eq_true rfl) (st := []) rfl ?_
  refine z_aload_n C dX7_turn_9 0 rfl rfl ?_
  refine z_aload_n C dX7_turn_10 0 rfl rfl ?_
  refine z_getR C fl_X7_16 dX7_turn_11 hf (fun x4 hf => ?_)
  obtain ⟨h6, g5, hf⟩ := zbind hf
  refine z_callV (kc' := 0) (ks' := 0) C (MX7_turnOn (xl X) (xD X) (xT X) (xlo X) al hi g5) (OX7_turnOn g5) rfl cw_X7_224 yv_X7_turnOn dX7_turn_14 rfl (by decide) ⟨rfl, rfl⟩ (Nat.le_of_ble_eq_true rfl) (st := []) rfl ?_
  refine z_aload_n C dX7_turn_17 0 rfl rfl ?_
  refine z_aload_n C dX7_turn_18 0 rfl rfl ?_
  refine z_getR C fl_X7_16 dX7_turn_19 hf (fun x7 hf => ?_)
  obtain ⟨x9, h10, g8, hf⟩ := zbind2 hf
  refine z_callS (kc' := 0) (ks' := 0) C (MX7_allWords (xl X) (xD X) (xT X) (xlo X) al hi g8) cw_X7_228 ys_X7_allWords dX7_turn_22 rfl (by decide) ⟨rfl, rfl⟩ (Nat.le_of_ble_eq_true rfl) (st := []) rfl ?_
  exact z_ireturn C dX7_turn_25 (by cases hf; rfl)
theorem MX7_turn (l : Launch) (D : va_G) (T : zT) (lo : Nat) (al : Bool) (hi : Nat) {h : zH} {a0 : Nat} {v9 : Int32} {h9 : zH} (hf : FX7_turn T a0 h = some (v9, h9)) : zM l yX7_turn (.code yX7_turn cX7_turn 1 (some .int) :: TW) ({ frames := 7, cells := 0, slots := 0, locals := 170 } : Room) D T lo al [.ref a0] hi h (some (.int v9), hi, h9) :=
  z_enter (own := RX7) (nm := "turn") (lv := [(0, .ref a0)]) (by decide +kernel) rfl rfl (Nat.le_of_ble_eq_true rfl) rfl (fun _ _ _ _ _ _ _ _ C => BX7_turn C hf)
theorem OX7_turn {T : zT} {h : zH} {a0 : Nat} {r9 : (Int32 × zH)} (hf : FX7_turn T a0 h = some r9) : ∃ fs, h a0 = some (.inr (7, fs)) := by
  obtain ⟨_, h1, _⟩ := zbind hf
  exact zo_obj h1
