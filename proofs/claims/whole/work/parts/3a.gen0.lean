theorem mw_39 : (Jvm.Cond.selects "CrossedSheetModel" ({ cls := "CrossedSheetModel", name := "layWords", desc := "([III)I" } : Jvm.MethodName) ({ cls := "CrossedSheetModel", name := "layWords", desc := "([III)I" } : Jvm.MethodName)) ∈ TW := TWm 39 (by decide +kernel) (by decide +kernel)
theorem mw_40 : (Jvm.Cond.selects "CrossedSheetModel" ({ cls := "CrossedSheetModel", name := "beginWord", desc := "(Z)V" } : Jvm.MethodName) ({ cls := "CrossedSheetModel", name := "beginWord", desc := "(Z)V" } : Jvm.MethodName)) ∈ TW := TWm 40 (by decide +kernel) (by decide +kernel)
theorem mw_54 : (Jvm.Cond.initialized "CrossedSheetModel") ∈ TW := TWm 54 (by decide +kernel) (by decide +kernel)
theorem mw_980 : (Jvm.Cond.fieldLink "CrossedSheetModel" (54 : Nat) "CrossedSheetModel" "refusal" "I") ∈ TW := TWm 980 (by decide +kernel) (by decide +kernel)
theorem mw_985 : (Jvm.Cond.fieldLink "CrossedSheetModel" (16 : Nat) "CrossedSheetModel" "now" "[I") ∈ TW := TWm 985 (by decide +kernel) (by decide +kernel)
theorem mw_992 : (Jvm.Cond.fieldLink "CrossedSheetModel" (35 : Nat) "CrossedSheetModel" "wordOf" "[I") ∈ TW := TWm 992 (by decide +kernel) (by decide +kernel)
theorem mw_993 : (Jvm.Cond.fieldLink "CrossedSheetModel" (38 : Nat) "CrossedSheetModel" "begins" "[I") ∈ TW := TWm 993 (by decide +kernel) (by decide +kernel)
theorem mw_994 : (Jvm.Cond.fieldLink "CrossedSheetModel" (41 : Nat) "CrossedSheetModel" "signs" "[I") ∈ TW := TWm 994 (by decide +kernel) (by decide +kernel)
theorem mw_995 : (Jvm.Cond.fieldLink "CrossedSheetModel" (91 : Nat) "CrossedSheetModel" "words" "I") ∈ TW := TWm 995 (by decide +kernel) (by decide +kernel)
theorem mw_996 : (Jvm.Cond.fieldLink "CrossedSheetModel" (94 : Nat) "CrossedSheetModel" "size" "I") ∈ TW := TWm 996 (by decide +kernel) (by decide +kernel)
theorem mw_1048 : (Jvm.Cond.methodLink "CrossedSheetModel" (58 : Nat) ({ cls := "CrossedSheetModel", name := "in", desc := "(JJJ)Z" } : Jvm.MethodName)) ∈ TW := TWm 1048 (by decide +kernel) (by decide +kernel)
theorem mw_1049 : (Jvm.Cond.static ({ cls := "CrossedSheetModel", name := "in", desc := "(JJJ)Z" } : Jvm.MethodName)) ∈ TW := TWm 1049 (by decide +kernel) (by decide +kernel)
theorem mw_1050 : (Jvm.Cond.code ({ cls := "CrossedSheetModel", name := "in", desc := "(JJJ)Z" } : Jvm.MethodName) prog_9_method_4_code (6 : Nat) (Option.some Jvm.ClassFile.FieldType.boolean)) ∈ TW := TWm 1050 (by decide +kernel) (by decide +kernel)
theorem mw_1088 : (Jvm.Cond.methodLink "CrossedSheetModel" (66 : Nat) ({ cls := "CrossedSheetModel", name := "cellAt", desc := "(II)I" } : Jvm.MethodName)) ∈ TW := TWm 1088 (by decide +kernel) (by decide +kernel)
theorem mw_1089 : (Jvm.Cond.static ({ cls := "CrossedSheetModel", name := "cellAt", desc := "(II)I" } : Jvm.MethodName)) ∈ TW := TWm 1089 (by decide +kernel) (by decide +kernel)
theorem mw_1090 : (Jvm.Cond.code ({ cls := "CrossedSheetModel", name := "cellAt", desc := "(II)I" } : Jvm.MethodName) prog_9_method_7_code (2 : Nat) (Option.some Jvm.ClassFile.FieldType.int)) ∈ TW := TWm 1090 (by decide +kernel) (by decide +kernel)
theorem mw_1103 : (Jvm.Cond.methodLink "CrossedSheetModel" (73 : Nat) ({ cls := "CrossedSheetModel", name := "markAt", desc := "(II)I" } : Jvm.MethodName)) ∈ TW := TWm 1103 (by decide +kernel) (by decide +kernel)
theorem mw_1104 : (Jvm.Cond.static ({ cls := "CrossedSheetModel", name := "markAt", desc := "(II)I" } : Jvm.MethodName)) ∈ TW := TWm 1104 (by decide +kernel) (by decide +kernel)
theorem mw_1105 : (Jvm.Cond.code ({ cls := "CrossedSheetModel", name := "markAt", desc := "(II)I" } : Jvm.MethodName) prog_9_method_8_code (2 : Nat) (Option.some Jvm.ClassFile.FieldType.int)) ∈ TW := TWm 1105 (by decide +kernel) (by decide +kernel)
theorem mw_1134 : (Jvm.Cond.methodLink "CrossedSheetModel" (84 : Nat) ({ cls := "CrossedSheetModel", name := "doubtsBy", desc := "([II)I" } : Jvm.MethodName)) ∈ TW := TWm 1134 (by decide +kernel) (by decide +kernel)
theorem mw_1135 : (Jvm.Cond.static ({ cls := "CrossedSheetModel", name := "doubtsBy", desc := "([II)I" } : Jvm.MethodName)) ∈ TW := TWm 1135 (by decide +kernel) (by decide +kernel)
theorem mw_1136 : (Jvm.Cond.code ({ cls := "CrossedSheetModel", name := "doubtsBy", desc := "([II)I" } : Jvm.MethodName) prog_9_method_16_code (6 : Nat) (Option.some Jvm.ClassFile.FieldType.int)) ∈ TW := TWm 1136 (by decide +kernel) (by decide +kernel)
theorem mw_1137 : (Jvm.Cond.methodLink "CrossedSheetModel" (80 : Nat) ({ cls := "CrossedSheetModel", name := "rule", desc := "([IIII)I" } : Jvm.MethodName)) ∈ TW := TWm 1137 (by decide +kernel) (by decide +kernel)
theorem mw_1138 : (Jvm.Cond.static ({ cls := "CrossedSheetModel", name := "rule", desc := "([IIII)I" } : Jvm.MethodName)) ∈ TW := TWm 1138 (by decide +kernel) (by decide +kernel)
theorem mw_1139 : (Jvm.Cond.code ({ cls := "CrossedSheetModel", name := "rule", desc := "([IIII)I" } : Jvm.MethodName) prog_9_method_14_code (7 : Nat) (Option.some Jvm.ClassFile.FieldType.int)) ∈ TW := TWm 1139 (by decide +kernel) (by decide +kernel)
theorem mw_1140 : (Jvm.Cond.methodLink "CrossedSheetModel" (76 : Nat) ({ cls := "CrossedSheetModel", name := "distance", desc := "([III)I" } : Jvm.MethodName)) ∈ TW := TWm 1140 (by decide +kernel) (by decide +kernel)
theorem mw_1141 : (Jvm.Cond.static ({ cls := "CrossedSheetModel", name := "distance", desc := "([III)I" } : Jvm.MethodName)) ∈ TW := TWm 1141 (by decide +kernel) (by decide +kernel)
theorem mw_1142 : (Jvm.Cond.code ({ cls := "CrossedSheetModel", name := "distance", desc := "([III)I" } : Jvm.MethodName) prog_9_method_13_code (3 : Nat) (Option.some Jvm.ClassFile.FieldType.int)) ∈ TW := TWm 1142 (by decide +kernel) (by decide +kernel)
theorem mw_1143 : (Jvm.Cond.methodLink "CrossedSheetModel" (70 : Nat) ({ cls := "CrossedSheetModel", name := "apart", desc := "(II)I" } : Jvm.MethodName)) ∈ TW := TWm 1143 (by decide +kernel) (by decide +kernel)
theorem mw_1144 : (Jvm.Cond.static ({ cls := "CrossedSheetModel", name := "apart", desc := "(II)I" } : Jvm.MethodName)) ∈ TW := TWm 1144 (by decide +kernel) (by decide +kernel)
theorem mw_1145 : (Jvm.Cond.code ({ cls := "CrossedSheetModel", name := "apart", desc := "(II)I" } : Jvm.MethodName) prog_9_method_12_code (2 : Nat) (Option.some Jvm.ClassFile.FieldType.int)) ∈ TW := TWm 1145 (by decide +kernel) (by decide +kernel)
theorem mw_1150 : (Jvm.Cond.methodLink "CrossedSheetModel" (88 : Nat) ({ cls := "CrossedSheetModel", name := "belongs", desc := "([III)I" } : Jvm.MethodName)) ∈ TW := TWm 1150 (by decide +kernel) (by decide +kernel)
theorem mw_1151 : (Jvm.Cond.static ({ cls := "CrossedSheetModel", name := "belongs", desc := "([III)I" } : Jvm.MethodName)) ∈ TW := TWm 1151 (by decide +kernel) (by decide +kernel)
theorem mw_1152 : (Jvm.Cond.code ({ cls := "CrossedSheetModel", name := "belongs", desc := "([III)I" } : Jvm.MethodName) prog_9_method_15_code (4 : Nat) (Option.some Jvm.ClassFile.FieldType.int)) ∈ TW := TWm 1152 (by decide +kernel) (by decide +kernel)
theorem mw_1165 : (Jvm.Cond.methodLink "CrossedSheetModel" (104 : Nat) ({ cls := "CrossedSheetModel", name := "layWords", desc := "([III)I" } : Jvm.MethodName)) ∈ TW := TWm 1165 (by decide +kernel) (by decide +kernel)
theorem mw_1167 : (Jvm.Cond.instanceMethod ({ cls := "CrossedSheetModel", name := "layWords", desc := "([III)I" } : Jvm.MethodName)) ∈ TW := TWm 1167 (by decide +kernel) (by decide +kernel)
theorem mw_1168 : (Jvm.Cond.code ({ cls := "CrossedSheetModel", name := "layWords", desc := "([III)I" } : Jvm.MethodName) prog_9_method_20_code (15 : Nat) (Option.some Jvm.ClassFile.FieldType.int)) ∈ TW := TWm 1168 (by decide +kernel) (by decide +kernel)
theorem mw_1169 : (Jvm.Cond.methodLink "CrossedSheetModel" (97 : Nat) ({ cls := "CrossedSheetModel", name := "signIn", desc := "([III)I" } : Jvm.MethodName)) ∈ TW := TWm 1169 (by decide +kernel) (by decide +kernel)
theorem mw_1170 : (Jvm.Cond.static ({ cls := "CrossedSheetModel", name := "signIn", desc := "([III)I" } : Jvm.MethodName)) ∈ TW := TWm 1170 (by decide +kernel) (by decide +kernel)
theorem mw_1171 : (Jvm.Cond.code ({ cls := "CrossedSheetModel", name := "signIn", desc := "([III)I" } : Jvm.MethodName) prog_9_method_19_code (4 : Nat) (Option.some Jvm.ClassFile.FieldType.int)) ∈ TW := TWm 1171 (by decide +kernel) (by decide +kernel)
theorem mw_1172 : (Jvm.Cond.methodLink "CrossedSheetModel" (100 : Nat) ({ cls := "CrossedSheetModel", name := "beginWord", desc := "(Z)V" } : Jvm.MethodName)) ∈ TW := TWm 1172 (by decide +kernel) (by decide +kernel)
theorem mw_1174 : (Jvm.Cond.instanceMethod ({ cls := "CrossedSheetModel", name := "beginWord", desc := "(Z)V" } : Jvm.MethodName)) ∈ TW := TWm 1174 (by decide +kernel) (by decide +kernel)
theorem mw_1175 : (Jvm.Cond.code ({ cls := "CrossedSheetModel", name := "beginWord", desc := "(Z)V" } : Jvm.MethodName) prog_9_method_21_code (2 : Nat) (Option.none : Option Jvm.ClassFile.FieldType)) ∈ TW := TWm 1175 (by decide +kernel) (by decide +kernel)
theorem mw_1180 : (Jvm.Cond.methodLink "CrossedSheetModel" (62 : Nat) ({ cls := "CrossedSheetModel", name := "isCell", desc := "([III)Z" } : Jvm.MethodName)) ∈ TW := TWm 1180 (by decide +kernel) (by decide +kernel)
theorem mw_1181 : (Jvm.Cond.static ({ cls := "CrossedSheetModel", name := "isCell", desc := "([III)Z" } : Jvm.MethodName)) ∈ TW := TWm 1181 (by decide +kernel) (by decide +kernel)
theorem mw_1182 : (Jvm.Cond.code ({ cls := "CrossedSheetModel", name := "isCell", desc := "([III)Z" } : Jvm.MethodName) prog_9_method_9_code (3 : Nat) (Option.some Jvm.ClassFile.FieldType.boolean)) ∈ TW := TWm 1182 (by decide +kernel) (by decide +kernel)
theorem fl_X7_16 : zF RX7 16 7 5 (.array .int) true := ⟨RX7, TX7, 19, tyX7, rfl, inTX7, by decide, mw_985, by decide +kernel, tyX7_ok, nmX7, rfl⟩
theorem fl_X7_35 : zF RX7 35 7 12 (.array .int) true := ⟨RX7, TX7, 19, tyX7, rfl, inTX7, by decide, mw_992, by decide +kernel, tyX7_ok, nmX7, rfl⟩
theorem fl_X7_38 : zF RX7 38 7 13 (.array .int) true := ⟨RX7, TX7, 19, tyX7, rfl, inTX7, by decide, mw_993, by decide +kernel, tyX7_ok, nmX7, rfl⟩
theorem fl_X7_41 : zF RX7 41 7 14 (.array .int) true := ⟨RX7, TX7, 19, tyX7, rfl, inTX7, by decide, mw_994, by decide +kernel, tyX7_ok, nmX7, rfl⟩
theorem fl_X7_54 : zF RX7 54 7 0 .int false := ⟨RX7, TX7, 19, tyX7, rfl, inTX7, by decide, mw_980, by decide +kernel, tyX7_ok, nmX7, rfl⟩
theorem fl_X7_91 : zF RX7 91 7 15 .int false := ⟨RX7, TX7, 19, tyX7, rfl, inTX7, by decide, mw_995, by decide +kernel, tyX7_ok, nmX7, rfl⟩
theorem fl_X7_94 : zF RX7 94 7 16 .int false := ⟨RX7, TX7, 19, tyX7, rfl, inTX7, by decide, mw_996, by decide +kernel, tyX7_ok, nmX7, rfl⟩
theorem ys_X7_apart : yX7_apart.cls ≠ "java/lang/invoke/MethodHandle" ∧ yX7_apart.cls ≠ "java/lang/invoke/VarHandle" ∧ (parseMethodDescriptor yX7_apart.desc).map (fun d => d.parameters.length) = some 2 := by decide +kernel
theorem yv_X7_beginWord : yX7_beginWord.cls = RX7 ∧ yX7_beginWord.cls ≠ "java/lang/invoke/MethodHandle" ∧ yX7_beginWord.cls ≠ "java/lang/invoke/VarHandle" ∧ (parseMethodDescriptor yX7_beginWord.desc).map (fun d => d.parameters.length) = some 1 := by decide +kernel
theorem ys_X7_belongs : yX7_belongs.cls ≠ "java/lang/invoke/MethodHandle" ∧ yX7_belongs.cls ≠ "java/lang/invoke/VarHandle" ∧ (parseMethodDescriptor yX7_belongs.desc).map (fun d => d.parameters.length) = some 3 := by decide +kernel
theorem ys_X7_cellAt : yX7_cellAt.cls ≠ "java/lang/invoke/MethodHandle" ∧ yX7_cellAt.cls ≠ "java/lang/invoke/VarHandle" ∧ (parseMethodDescriptor yX7_cellAt.desc).map (fun d => d.parameters.length) = some 2 := by decide +kernel
theorem ys_X7_distance : yX7_distance.cls ≠ "java/lang/invoke/MethodHandle" ∧ yX7_distance.cls ≠ "java/lang/invoke/VarHandle" ∧ (parseMethodDescriptor yX7_distance.desc).map (fun d => d.parameters.length) = some 3 := by decide +kernel
theorem ys_X7_doubtsBy : yX7_doubtsBy.cls ≠ "java/lang/invoke/MethodHandle" ∧ yX7_doubtsBy.cls ≠ "java/lang/invoke/VarHandle" ∧ (parseMethodDescriptor yX7_doubtsBy.desc).map (fun d => d.parameters.length) = some 2 := by decide +kernel
theorem ys_X7_in : yX7_in.cls ≠ "java/lang/invoke/MethodHandle" ∧ yX7_in.cls ≠ "java/lang/invoke/VarHandle" ∧ (parseMethodDescriptor yX7_in.desc).map (fun d => d.parameters.length) = some 3 := by decide +kernel
theorem ys_X7_isCell : yX7_isCell.cls ≠ "java/lang/invoke/MethodHandle" ∧ yX7_isCell.cls ≠ "java/lang/invoke/VarHandle" ∧ (parseMethodDescriptor yX7_isCell.desc).map (fun d => d.parameters.length) = some 3 := by decide +kernel
theorem yv_X7_layWords : yX7_layWords.cls = RX7 ∧ yX7_layWords.cls ≠ "java/lang/invoke/MethodHandle" ∧ yX7_layWords.cls ≠ "java/lang/invoke/VarHandle" ∧ (parseMethodDescriptor yX7_layWords.desc).map (fun d => d.parameters.length) = some 3 := by decide +kernel
theorem ys_X7_markAt : yX7_markAt.cls ≠ "java/lang/invoke/MethodHandle" ∧ yX7_markAt.cls ≠ "java/lang/invoke/VarHandle" ∧ (parseMethodDescriptor yX7_markAt.desc).map (fun d => d.parameters.length) = some 2 := by decide +kernel
theorem ys_X7_rule : yX7_rule.cls ≠ "java/lang/invoke/MethodHandle" ∧ yX7_rule.cls ≠ "java/lang/invoke/VarHandle" ∧ (parseMethodDescriptor yX7_rule.desc).map (fun d => d.parameters.length) = some 4 := by decide +kernel
theorem ys_X7_signIn : yX7_signIn.cls ≠ "java/lang/invoke/MethodHandle" ∧ yX7_signIn.cls ≠ "java/lang/invoke/VarHandle" ∧ (parseMethodDescriptor yX7_signIn.desc).map (fun d => d.parameters.length) = some 3 := by decide +kernel
theorem cw_X7_58 : GoodIn TW (va_wsS RX7 58 yX7_in (.code yX7_in cX7_in 6 (some .boolean) :: TW)) := zGS mw_1048 mw_1049 mw_54 mw_1050
theorem cw_X7_62 : GoodIn TW (va_wsS RX7 62 yX7_isCell (.code yX7_isCell cX7_isCell 3 (some .boolean) :: TW)) := zGS mw_1180 mw_1181 mw_54 mw_1182
theorem cw_X7_66 : GoodIn TW (va_wsS RX7 66 yX7_cellAt (.code yX7_cellAt cX7_cellAt 2 (some .int) :: TW)) := zGS mw_1088 mw_1089 mw_54 mw_1090
theorem cw_X7_70 : GoodIn TW (va_wsS RX7 70 yX7_apart (.code yX7_apart cX7_apart 2 (some .int) :: TW)) := zGS mw_1143 mw_1144 mw_54 mw_1145
theorem cw_X7_73 : GoodIn TW (va_wsS RX7 73 yX7_markAt (.code yX7_markAt cX7_markAt 2 (some .int) :: TW)) := zGS mw_1103 mw_1104 mw_54 mw_1105
theorem cw_X7_76 : GoodIn TW (va_wsS RX7 76 yX7_distance (.code yX7_distance cX7_distance 3 (some .int) :: TW)) := zGS mw_1140 mw_1141 mw_54 mw_1142
theorem cw_X7_80 : GoodIn TW (va_wsS RX7 80 yX7_rule (.code yX7_rule cX7_rule 7 (some .int) :: TW)) := zGS mw_1137 mw_1138 mw_54 mw_1139
theorem cw_X7_84 : GoodIn TW (va_wsS RX7 84 yX7_doubtsBy (.code yX7_doubtsBy cX7_doubtsBy 6 (some .int) :: TW)) := zGS mw_1134 mw_1135 mw_54 mw_1136
theorem cw_X7_88 : GoodIn TW (va_wsS RX7 88 yX7_belongs (.code yX7_belongs cX7_belongs 4 (some .int) :: TW)) := zGS mw_1150 mw_1151 mw_54 mw_1152
theorem cw_X7_97 : GoodIn TW (va_wsS RX7 97 yX7_signIn (.code yX7_signIn cX7_signIn 4 (some .int) :: TW)) := zGS mw_1169 mw_1170 mw_54 mw_1171
theorem cw_X7_100 : GoodIn TW (wsV RX7 100 RX7 yX7_beginWord (.code yX7_beginWord cX7_beginWord 2 none :: TW)) := zGV mw_1172 mw_1174 mw_40 mw_54 mw_1175
theorem cw_X7_104 : GoodIn TW (wsV RX7 104 RX7 yX7_layWords (.code yX7_layWords cX7_layWords 15 (some .int) :: TW)) := zGV mw_1165 mw_1167 mw_39 mw_54 mw_1168
theorem dX7_clear_0 : decode cX7_clear 0 = .ok (.iconst 0, 1) := by decide +kernel
theorem dX7_clear_1 : decode cX7_clear 1 = .ok (.istore_n 3, 1) := by decide +kernel
theorem dX7_clear_2 : decode cX7_clear 2 = .ok (.iload_n 3, 1) := by decide +kernel
theorem dX7_clear_3 : decode cX7_clear 3 = .ok (.sipush 739, 3) := by decide +kernel
theorem dX7_clear_6 : decode cX7_clear 6 = .ok (.if_icmp .ge 13, 3) := by decide +kernel
theorem dX7_clear_9 : decode cX7_clear 9 = .ok (.aload_n 0, 1) := by decide +kernel
theorem dX7_clear_10 : decode cX7_clear 10 = .ok (.iload_n 3, 1) := by decide +kernel
theorem dX7_clear_11 : decode cX7_clear 11 = .ok (.iconst 0, 1) := by decide +kernel
theorem dX7_clear_12 : decode cX7_clear 12 = .ok (.iastore, 1) := by decide +kernel
theorem dX7_clear_13 : decode cX7_clear 13 = .ok (.iinc 3 1, 3) := by decide +kernel
theorem dX7_clear_16 : decode cX7_clear 16 = .ok (.goto (-14), 3) := by decide +kernel
theorem dX7_clear_19 : decode cX7_clear 19 = .ok (.aload_n 0, 1) := by decide +kernel
theorem dX7_clear_20 : decode cX7_clear 20 = .ok (.iconst 0, 1) := by decide +kernel
theorem dX7_clear_21 : decode cX7_clear 21 = .ok (.iload_n 1, 1) := by decide +kernel
theorem dX7_clear_22 : decode cX7_clear 22 = .ok (.iastore, 1) := by decide +kernel
theorem dX7_clear_23 : decode cX7_clear 23 = .ok (.aload_n 0, 1) := by decide +kernel
theorem dX7_clear_24 : decode cX7_clear 24 = .ok (.iconst 1, 1) := by decide +kernel
theorem dX7_clear_25 : decode cX7_clear 25 = .ok (.iload_n 2, 1) := by decide +kernel
theorem dX7_clear_26 : decode cX7_clear 26 = .ok (.iastore, 1) := by decide +kernel
theorem dX7_clear_27 : decode cX7_clear 27 = .ok (.aload_n 0, 1) := by decide +kernel
theorem dX7_clear_28 : decode cX7_clear 28 = .ok (.iconst 2, 1) := by decide +kernel
theorem dX7_clear_29 : decode cX7_clear 29 = .ok (.iconst 2, 1) := by decide +kernel
theorem dX7_clear_30 : decode cX7_clear 30 = .ok (.iastore, 1) := by decide +kernel
theorem dX7_clear_31 : decode cX7_clear 31 = .ok (.aload_n 0, 1) := by decide +kernel
theorem dX7_clear_32 : decode cX7_clear 32 = .ok (.iconst 3, 1) := by decide +kernel
theorem dX7_clear_33 : decode cX7_clear 33 = .ok (.iconst 2, 1) := by decide +kernel
theorem dX7_clear_34 : decode cX7_clear 34 = .ok (.iastore, 1) := by decide +kernel
theorem dX7_clear_35 : decode cX7_clear 35 = .ok (.aload_n 0, 1) := by decide +kernel
theorem dX7_clear_36 : decode cX7_clear 36 = .ok (.iconst 5, 1) := by decide +kernel
theorem dX7_clear_37 : decode cX7_clear 37 = .ok (.iconst 2, 1) := by decide +kernel
theorem dX7_clear_38 : decode cX7_clear 38 = .ok (.iastore, 1) := by decide +kernel
theorem dX7_clear_39 : decode cX7_clear 39 = .ok (.aload_n 0, 1) := by decide +kernel
theorem dX7_clear_40 : decode cX7_clear 40 = .ok (.bipush 7, 2) := by decide +kernel
theorem dX7_clear_42 : decode cX7_clear 42 = .ok (.iconst 3, 1) := by decide +kernel
theorem dX7_clear_43 : decode cX7_clear 43 = .ok (.iastore, 1) := by decide +kernel
theorem dX7_clear_44 : decode cX7_clear 44 = .ok (.aload_n 0, 1) := by decide +kernel
theorem dX7_clear_45 : decode cX7_clear 45 = .ok (.bipush 8, 2) := by decide +kernel
theorem dX7_clear_47 : decode cX7_clear 47 = .ok (.bipush 6, 2) := by decide +kernel
theorem dX7_clear_49 : decode cX7_clear 49 = .ok (.iastore, 1) := by decide +kernel
theorem dX7_clear_50 : decode cX7_clear 50 = .ok (.aload_n 0, 1) := by decide +kernel
theorem dX7_clear_51 : decode cX7_clear 51 = .ok (.bipush 9, 2) := by decide +kernel
theorem dX7_clear_53 : decode cX7_clear 53 = .ok (.iconst 1, 1) := by decide +kernel
theorem dX7_clear_54 : decode cX7_clear 54 = .ok (.iastore, 1) := by decide +kernel
theorem dX7_clear_55 : decode cX7_clear 55 = .ok (.return_, 1) := by decide +kernel
def LX7_clear_2 {ρ : Type} (T : zT) (x1 : Nat) (x2 : Int32) (x3 : Int32) (K0 : zH → Option ρ) : Nat → Int32 → zH → Option ρ
  | 0, _, _ => none
  | k + 1, x4, h5 => if 739 ≤ x4 then (K0 h5) else ((zas T h5 x1 x4 0).bind fun h6 => LX7_clear_2 T x1 x2 x3 K0 k (x4 + 1) h6)
set_option maxHeartbeats 4000000 in
set_option maxRecDepth 100000 in
theorem LX7_clear_2_ok {X : zX} (C : zC X cX7_clear 4 RX7 "clear" none 0 0) {Z : State → Prop} {al : Bool} {hi : Nat} {ρ : Type} {r9 : ρ} {x1 : Nat} {x2 : Int32} {x3 : Int32} {K0 : zH → Option ρ} (hK0 : ∀ (g9 : zH), K0 g9 = some r9 → zW X 4 Z 0 0 al hi g9 19 [(0, .ref x1), (1, .int x2), (2, .int x3)] []) : ∀ (k : Nat) (x4 : Int32) (h5 : zH), LX7_clear_2 (xT X) x1 x2 x3 K0 k x4 h5 = some r9 → zW X 4 Z 0 0 al hi h5 2 [(0, .ref x1), (1, .int x2), (2, .int x3), (3, .int x4)] [] := by
  intro k
  induction k with
  | zero =>
    intro x4 h5 hf
    have hf : none = some r9 := hf
    cases hf
  | succ k ih =>
    intro x4 h5 hf
    rw [LX7_clear_2.eq_2] at hf
    refine z_iload_n C dX7_clear_2 3 rfl rfl ?_
    refine z_sipush C (v := 739) dX7_clear_3 (by decide) ?_
    refine z_icmp_ge (tgt := 19) C dX7_clear_6 (by decide) hf (fun hf => ?_) (fun hf => ?_)
    · refine z_sub [0, 1, 2] rfl ?_
      exact hK0 _ hf
    · refine z_aload_n C dX7_clear_9 0 rfl rfl ?_
      refine z_iload_n C dX7_clear_10 3 rfl rfl ?_
      refine z_iconst C (v := 0) dX7_clear_11 (by decide) ?_
      refine z_iastore C dX7_clear_12 hf (fun h6 hf => ?_)
      refine z_iinc C dX7_clear_13 (k := 3) (d := 1) rfl (by decide) (by decide) (lv' := [(3, .int (x4 + 1)), (0, .ref x1), (1, .int x2), (2, .int x3)]) rfl ?_
      refine z_goto (tgt := 2) C dX7_clear_16 (by decide) ?_
      refine z_sub [1, 2, 3, 0] rfl ?_
      exact ih _ _ hf
def FX7_clear (T : zT) (p0 : Nat) (p1 : Int32) (p2 : Int32) (h : zH) : Option zH := LX7_clear_2 T p0 p1 p2 (fun (h7 : zH) => (zas T h7 p0 0 p1).bind fun h8 => (zas T h8 p0 1 p2).bind fun h9 => (zas T h9 p0 2 2).bind fun h10 => (zas T h10 p0 3 2).bind fun h11 => (zas T h11 p0 5 2).bind fun h12 => (zas T h12 p0 7 3).bind fun h13 => (zas T h13 p0 8 6).bind fun h14 => (zas T h14 p0 9 1).bind fun h15 => some h15) FUEL 0 h
set_option maxHeartbeats 4000000 in
set_option maxRecDepth 100000 in
theorem BX7_clear {X : zX} (C : zC X cX7_clear 4 RX7 "clear" none 0 0) {al : Bool} {hi : Nat} {h : zH} {p0 : Nat} {p1 : Int32} {p2 : Int32} {r9 : zH} (hf : FX7_clear (xT X) p0 p1 p2 h = some r9) : zW X 4 (zZ X al (none, hi, r9)) 0 0 al hi h 0 [(0, .ref p0), (1, .int p1), (2, .int p2)] [] := by
  unfold FX7_clear at hf
  refine z_iconst C (v := 0) dX7_clear_0 (by decide) ?_
  refine z_istore_n C dX7_clear_1 rfl (by decide) (lv' := [(3, .int 0), (0, .ref p0), (1, .int p1), (2, .int p2)]) rfl ?_
  refine z_sub [1, 2, 3, 0] rfl ?_
  refine LX7_clear_2_ok C ?_ FUEL _ _ hf
  · intro h7 hf
    refine z_aload_n C dX7_clear_19 0 rfl rfl ?_
    refine z_iconst C (v := 0) dX7_clear_20 (by decide) ?_
    refine z_iload_n C dX7_clear_21 1 rfl rfl ?_
    refine z_iastore C dX7_clear_22 hf (fun h8 hf => ?_)
    refine z_aload_n C dX7_clear_23 0 rfl rfl ?_
    refine z_iconst C (v := 1) dX7_clear_24 (by decide) ?_
    refine z_iload_n C dX7_clear_25 2 rfl rfl ?_
    refine z_iastore C dX7_clear_26 hf (fun h9 hf => ?_)
    refine z_aload_n C dX7_clear_27 0 rfl rfl ?_
    refine z_iconst C (v := 2) dX7_clear_28 (by decide) ?_
    refine z_iconst C (v := 2) dX7_clear_29 (by decide) ?_
    refine z_iastore C dX7_clear_30 hf (fun h10 hf => ?_)
    refine z_aload_n C dX7_clear_31 0 rfl rfl ?_
    refine z_iconst C (v := 3) dX7_clear_32 (by decide) ?_
    refine z_iconst C (v := 2) dX7_clear_33 (by decide) ?_
    refine z_iastore C dX7_clear_34 hf (fun h11 hf => ?_)
    refine z_aload_n C dX7_clear_35 0 rfl rfl ?_
    refine z_iconst C (v := 5) dX7_clear_36 (by decide) ?_
    refine z_iconst C (v := 2) dX7_clear_37 (by decide) ?_
    refine z_iastore C dX7_clear_38 hf (fun h12 hf => ?_)
    refine z_aload_n C dX7_clear_39 0 rfl rfl ?_
    refine z_bipush C (v := 7) dX7_clear_40 (by decide) ?_
    refine z_iconst C (v := 3) dX7_clear_42 (by decide) ?_
    refine z_iastore C dX7_clear_43 hf (fun h13 hf => ?_)
    refine z_aload_n C dX7_clear_44 0 rfl rfl ?_
    refine z_bipush C (v := 8) dX7_clear_45 (by decide) ?_
    refine z_bipush C (v := 6) dX7_clear_47 (by decide) ?_
    refine z_iastore C dX7_clear_49 hf (fun h14 hf => ?_)
    refine z_aload_n C dX7_clear_50 0 rfl rfl ?_
    refine z_bipush C (v := 9) dX7_clear_51 (by decide) ?_
    refine z_iconst C (v := 1) dX7_clear_53 (by decide) ?_
    refine z_iastore C dX7_clear_54 hf (fun h15 hf => ?_)
    exact z_vreturn C dX7_clear_55 (by cases hf; rfl)
theorem MX7_clear (l : Launch) (D : va_G) (T : zT) (lo : Nat) (al : Bool) (hi : Nat) {h : zH} {p0 : Nat} {p1 : Int32} {p2 : Int32} {h9 : zH} (hf : FX7_clear T p0 p1 p2 h = some h9) : zM l yX7_clear (.code yX7_clear cX7_clear 4 none :: TW) ({ frames := 0, cells := 0, slots := 0, locals := 0 } : Room) D T lo al [.ref p0, .int p1, .int p2] hi h (none, hi, h9) :=
  z_enter (own := RX7) (nm := "clear") (lv := [(0, .ref p0), (1, .int p1), (2, .int p2)]) (by decide +kernel) rfl rfl (Nat.le_of_ble_eq_true rfl) rfl (fun _ _ _ _ _ _ _ _ C => BX7_clear C hf)
theorem dX7_thrown_0 : decode cX7_thrown 0 = .ok (.aload_n 0, 1) := by decide +kernel
theorem dX7_thrown_1 : decode cX7_thrown 1 = .ok (.getfield 54, 3) := by decide +kernel
theorem dX7_thrown_4 : decode cX7_thrown 4 = .ok (.ireturn, 1) := by decide +kernel
def FX7_thrown (T : zT) (a0 : Nat) (h : zH) : Option Int32 := (zo h a0 7).bind fun _ => (zgi h a0 7 0).bind fun x1 => some x1
set_option maxHeartbeats 4000000 in
set_option maxRecDepth 100000 in
theorem BX7_thrown {X : zX} (C : zC X cX7_thrown 1 RX7 "thrown" (some .int) 0 0) {al : Bool} {hi : Nat} {h : zH} {a0 : Nat} {r9 : Int32} (hf : FX7_thrown (xT X) a0 h = some r9) : zW X 1 (zZ X al (some (.int r9), hi, h)) 0 0 al hi h 0 [(0, .ref a0)] [] := by
  unfold FX7_thrown at hf
  obtain ⟨_, _, hf⟩ := zbind hf
  refine z_aload_n C dX7_thrown_0 0 rfl rfl ?_
  refine z_getI C fl_X7_54 dX7_thrown_1 hf (fun x1 hf => ?_)
  exact z_ireturn C dX7_thrown_4 (by cases hf; rfl)
theorem MX7_thrown (l : Launch) (D : va_G) (T : zT) (lo : Nat) (al : Bool) (hi : Nat) {h : zH} {a0 : Nat} {v9 : Int32} (hf : FX7_thrown T a0 h = some v9) : zM l yX7_thrown (.code yX7_thrown cX7_thrown 1 (some .int) :: TW) ({ frames := 0, cells := 0, slots := 0, locals := 0 } : Room) D T lo al [.ref a0] hi h (some (.int v9), hi, h) :=
  z_enter (own := RX7) (nm := "thrown") (lv := [(0, .ref a0)]) (by decide +kernel) rfl rfl (Nat.le_of_ble_eq_true rfl) rfl (fun _ _ _ _ _ _ _ _ C => BX7_thrown C hf)
theorem OX7_thrown {T : zT} {h : zH} {a0 : Nat} {r9 : Int32} (hf : FX7_thrown T a0 h = some r9) : ∃ fs, h a0 = some (.inr (7, fs)) := by
  obtain ⟨_, h1, _⟩ := zbind hf
  exact zo_obj h1
theorem dX7_refused_0 : decode cX7_refused 0 = .ok (.aload_n 0, 1) := by decide +kernel
theorem dX7_refused_1 : decode cX7_refused 1 = .ok (.iload_n 1, 1) := by decide +kernel
theorem dX7_refused_2 : decode cX7_refused 2 = .ok (.putfield 54, 3) := by decide +kernel
theorem dX7_refused_5 : decode cX7_refused 5 = .ok (.iload_n 1, 1) := by decide +kernel
theorem dX7_refused_6 : decode cX7_refused 6 = .ok (.ifCond .le 7, 3) := by decide +kernel
theorem dX7_refused_9 : decode cX7_refused 9 = .ok (.iconst 1, 1) := by decide +kernel
theorem dX7_refused_10 : decode cX7_refused 10 = .ok (.goto 4, 3) := by decide +kernel
theorem dX7_refused_13 : decode cX7_refused 13 = .ok (.iconst 0, 1) := by decide +kernel
theorem dX7_refused_14 : decode cX7_refused 14 = .ok (.ireturn, 1) := by decide +kernel
def FX7_refused (T : zT) (a0 : Nat) (p0 : Int32) (h : zH) : Option (Int32 × zH) := (zo h a0 7).bind fun _ => zJ (fun (x1 : Int32) (h2 : zH) => if x1 = 0 ∨ x1 = 1 then some (x1, h2) else none) (fun J3 => (zpv h a0 7 0 (.int p0)).bind fun h4 => if p0 ≤ 0 then (J3 0 h4) else (J3 1 h4))
set_option maxHeartbeats 4000000 in
set_option maxRecDepth 100000 in
theorem BX7_refused {X : zX} (C : zC X cX7_refused 2 RX7 "refused" (some .boolean) 0 0) {al : Bool} {hi : Nat} {h : zH} {a0 : Nat} {p0 : Int32} {r9 : (Int32 × zH)} (hf : FX7_refused (xT X) a0 p0 h = some r9) : zW X 2 (zZ X al (some (.int r9.1), hi, r9.2)) 0 0 al hi h 0 [(0, .ref a0), (1, .int p0)] [] := by
  unfold FX7_refused at hf
  obtain ⟨_, _, hf⟩ := zbind hf
  refine z_join (P := fun J => ∀ (x1 : Int32) (h2 : zH), J x1 h2 = some r9 → zW X 2 (zZ X al (some (.int r9.1), hi, r9.2)) 0 0 al hi h2 14 [] [.int x1]) hf ?_ ?_
  · intro x1 h2 hf
    refine z_ite hf (fun c hf => ?_) (fun c hf => nomatch hf)
    exact z_zreturn C dX7_refused_14 c (by cases hf; rfl)
  · intro J3 kJ3 hf
    refine z_aload_n C dX7_refused_0 0 rfl rfl ?_
    refine z_iload_n C dX7_refused_1 1 rfl rfl ?_
    refine z_put C fl_X7_54 dX7_refused_2 rfl rfl hf (fun h4 hf => ?_)
    refine z_iload_n C dX7_refused_5 1 rfl rfl ?_
    refine z_if_le (tgt := 13) C dX7_refused_6 (by decide) hf (fun hf => ?_) (fun hf => ?_)
    · refine z_iconst C (v := 0) dX7_refused_13 (by decide) ?_
      refine z_sub [] rfl ?_
      exact kJ3 _ _ hf
    · refine z_iconst C (v := 1) dX7_refused_9 (by decide) ?_
      refine z_goto (tgt := 14) C dX7_refused_10 (by decide) ?_
      refine z_sub [] rfl ?_
      exact kJ3 _ _ hf
theorem MX7_refused (l : Launch) (D : va_G) (T : zT) (lo : Nat) (al : Bool) (hi : Nat) {h : zH} {a0 : Nat} {p0 : Int32} {v9 : Int32} {h9 : zH} (hf : FX7_refused T a0 p0 h = some (v9, h9)) : zM l yX7_refused (.code yX7_refused cX7_refused 2 (some .boolean) :: TW) ({ frames := 0, cells := 0, slots := 0, locals := 0 } : Room) D T lo al [.ref a0, .int p0] hi h (some (.int v9), hi, h9) :=
  z_enter (own := RX7) (nm := "refused") (lv := [(0, .ref a0), (1, .int p0)]) (by decide +kernel) rfl rfl (Nat.le_of_ble_eq_true rfl) rfl (fun _ _ _ _ _ _ _ _ C => BX7_refused C hf)
theorem OX7_refused {T : zT} {h : zH} {a0 : Nat} {p0 : Int32} {r9 : (Int32 × zH)} (hf : FX7_refused T a0 p0 h = some r9) : ∃ fs, h a0 = some (.inr (7, fs)) := by
  obtain ⟨_, h1, _⟩ := zbind hf
  exact zo_obj h1
theorem dX7_in_0 : decode cX7_in 0 = .ok (.lload_n 0, 1) := by decide +kernel
theorem dX7_in_1 : decode cX7_in 1 = .ok (.lload_n 2, 1) := by decide +kernel
theorem dX7_in_2 : decode cX7_in 2 = .ok (.lcmp, 1) := by decide +kernel
theorem dX7_in_3 : decode cX7_in 3 = .ok (.ifCond .lt 14, 3) := by decide +kernel
theorem dX7_in_6 : decode cX7_in 6 = .ok (.lload_n 0, 1) := by decide +kernel
theorem dX7_in_7 : decode cX7_in 7 = .ok (.lload 4, 2) := by decide +kernel
theorem dX7_in_9 : decode cX7_in 9 = .ok (.lcmp, 1) := by decide +kernel
theorem dX7_in_10 : decode cX7_in 10 = .ok (.ifCond .gt 7, 3) := by decide +kernel
theorem dX7_in_13 : decode cX7_in 13 = .ok (.iconst 1, 1) := by decide +kernel
theorem dX7_in_14 : decode cX7_in 14 = .ok (.goto 4, 3) := by decide +kernel
theorem dX7_in_17 : decode cX7_in 17 = .ok (.iconst 0, 1) := by decide +kernel
theorem dX7_in_18 : decode cX7_in 18 = .ok (.ireturn, 1) := by decide +kernel
def FX7_in (T : zT) (p0 : Int64) (p1 : Int64) (p2 : Int64) (h : zH) : Option Int32 := zJ (fun (x1 : Int32) => if x1 = 0 ∨ x1 = 1 then some x1 else none) (fun J2 => zJ (fun (u9 : Unit) => J2 0) (fun J3 => if (lg_cmp p0 p1) < 0 then (J3 ()) else (if 0 < (lg_cmp p0 p2) then (J3 ()) else (J2 1))))
set_option maxHeartbeats 4000000 in
set_option maxRecDepth 100000 in
theorem BX7_in {X : zX} (C : zC X cX7_in 6 RX7 "in" (some .boolean) 0 0) {al : Bool} {hi : Nat} {h : zH} {p0 : Int64} {p1 : Int64} {p2 : Int64} {r9 : Int32} (hf : FX7_in (xT X) p0 p1 p2 h = some r9) : zW X 6 (zZ X al (some (.int r9), hi, h)) 0 0 al hi h 0 [(0, .long p0), (2, .long p1), (4, .long p2)] [] := by
  unfold FX7_in at hf
  refine z_join (P := fun J => ∀ (x1 : Int32), J x1 = some r9 → zW X 6 (zZ X al (some (.int r9), hi, h)) 0 0 al hi h 18 [] [.int x1]) hf ?_ ?_
  · intro x1 hf
    refine z_ite hf (fun c hf => ?_) (fun c hf => nomatch hf)
    exact z_zreturn C dX7_in_18 c (by cases hf; rfl)
  · intro J2 kJ2 hf
    refine z_join (P := fun J => ∀ (u9 : Unit), J u9 = some r9 → zW X 6 (zZ X al (some (.int r9), hi, h)) 0 0 al hi h 17 [] []) hf ?_ ?_
    · intro u9 hf
      refine z_iconst C (v := 0) dX7_in_17 (by decide) ?_
      exact kJ2 _ hf
    · intro J3 kJ3 hf
      refine z_lload_n C dX7_in_0 0 rfl rfl ?_
      refine z_lload_n C dX7_in_1 1 rfl rfl ?_
      refine z_lcmp C dX7_in_2 ?_
      refine z_if_lt (tgt := 17) C dX7_in_3 (by decide) hf (fun hf => ?_) (fun hf => ?_)
      · refine z_sub [] rfl ?_
        exact kJ3 _ hf
      · refine z_lload_n C dX7_in_6 0 rfl rfl ?_
        refine z_lload C dX7_in_7 2 rfl ?_
        refine z_lcmp C dX7_in_9 ?_
        refine z_if_gt (tgt := 17) C dX7_in_10 (by decide) hf (fun hf => ?_) (fun hf => ?_)
        · refine z_sub [] rfl ?_
          exact kJ3 _ hf
        · refine z_iconst C (v := 1) dX7_in_13 (by decide) ?_
          refine z_goto (tgt := 18) C dX7_in_14 (by decide) ?_
          refine z_sub [] rfl ?_
          exact kJ2 _ hf
theorem MX7_in (l : Launch) (D : va_G) (T : zT) (lo : Nat) (al : Bool) (hi : Nat) {h : zH} {p0 : Int64} {p1 : Int64} {p2 : Int64} {v9 : Int32} (hf : FX7_in T p0 p1 p2 h = some v9) : zM l yX7_in (.code yX7_in cX7_in 6 (some .boolean) :: TW) ({ frames := 0, cells := 0, slots := 0, locals := 0 } : Room) D T lo al [.long p0, .long p1, .long p2] hi h (some (.int v9), hi, h) :=
  z_enter (own := RX7) (nm := "in") (lv := [(0, .long p0), (2, .long p1), (4, .long p2)]) (by decide +kernel) rfl rfl (Nat.le_of_ble_eq_true rfl) rfl (fun _ _ _ _ _ _ _ _ C => BX7_in C hf)
theorem dX7_copyPage_0 : decode cX7_copyPage 0 = .ok (.iconst 0, 1) := by decide +kernel
theorem dX7_copyPage_1 : decode cX7_copyPage 1 = .ok (.istore 4, 2) := by decide +kernel
theorem dX7_copyPage_3 : decode cX7_copyPage 3 = .ok (.iload 4, 2) := by decide +kernel
theorem dX7_copyPage_5 : decode cX7_copyPage 5 = .ok (.sipush 739, 3) := by decide +kernel
theorem dX7_copyPage_8 : decode cX7_copyPage 8 = .ok (.if_icmp .ge 21, 3) := by decide +kernel
theorem dX7_copyPage_11 : decode cX7_copyPage 11 = .ok (.aload_n 2, 1) := by decide +kernel
theorem dX7_copyPage_12 : decode cX7_copyPage 12 = .ok (.iload_n 3, 1) := by decide +kernel
theorem dX7_copyPage_13 : decode cX7_copyPage 13 = .ok (.iload 4, 2) := by decide +kernel
theorem dX7_copyPage_15 : decode cX7_copyPage 15 = .ok (.iadd, 1) := by decide +kernel
theorem dX7_copyPage_16 : decode cX7_copyPage 16 = .ok (.aload_n 0, 1) := by decide +kernel
theorem dX7_copyPage_17 : decode cX7_copyPage 17 = .ok (.iload_n 1, 1) := by decide +kernel
theorem dX7_copyPage_18 : decode cX7_copyPage 18 = .ok (.iload 4, 2) := by decide +kernel
theorem dX7_copyPage_20 : decode cX7_copyPage 20 = .ok (.iadd, 1) := by decide +kernel
theorem dX7_copyPage_21 : decode cX7_copyPage 21 = .ok (.iaload, 1) := by decide +kernel
theorem dX7_copyPage_22 : decode cX7_copyPage 22 = .ok (.iastore, 1) := by decide +kernel
theorem dX7_copyPage_23 : decode cX7_copyPage 23 = .ok (.iinc 4 1, 3) := by decide +kernel
theorem dX7_copyPage_26 : decode cX7_copyPage 26 = .ok (.goto (-23), 3) := by decide +kernel
theorem dX7_copyPage_29 : decode cX7_copyPage 29 = .ok (.return_, 1) := by decide +kernel
def LX7_copyPage_3 {ρ : Type} (T : zT) (x1 : Nat) (x2 : Int32) (x3 : Nat) (x4 : Int32) (K0 : zH → Option ρ) : Nat → Int32 → zH → Option ρ
  | 0, _, _ => none
  | k + 1, x5, h6 => if 739 ≤ x5 then (K0 h6) else ((zai T h6 x1 (x2 + x5)).bind fun x7 => (zas T h6 x3 (x4 + x5) x7).bind fun h8 => LX7_copyPage_3 T x1 x2 x3 x4 K0 k (x5 + 1) h8)
set_option maxHeartbeats 4000000 in
set_option maxRecDepth 100000 in
theorem LX7_copyPage_3_ok {X : zX} (C : zC X cX7_copyPage 5 RX7 "copyPage" none 0 0) {Z : State → Prop} {al : Bool} {hi : Nat} {ρ : Type} {r9 : ρ} {x1 : Nat} {x2 : Int32} {x3 : Nat} {x4 : Int32} {K0 : zH → Option ρ} (hK0 : ∀ (g9 : zH), K0 g9 = some r9 → zW X 5 Z 0 0 al hi g9 29 [] []) : ∀ (k : Nat) (x5 : Int32) (h6 : zH), LX7_copyPage_3 (xT X) x1 x2 x3 x4 K0 k x5 h6 = some r9 → zW X 5 Z 0 0 al hi h6 3 [(0, .ref x1), (1, .int x2), (2, .ref x3), (3, .int x4), (4, .int x5)] [] := by
  intro k
  induction k with
  | zero =>
    intro x5 h6 hf
    have hf : none = some r9 := hf
    cases hf
  | succ k ih =>
    intro x5 h6 hf
    rw [LX7_copyPage_3.eq_2] at hf
    refine z_iload C dX7_copyPage_3 4 rfl ?_
    refine z_sipush C (v := 739) dX7_copyPage_5 (by decide) ?_
    refine z_icmp_ge (tgt := 29) C dX7_copyPage_8 (by decide) hf (fun hf => ?_) (fun hf => ?_)
    · refine z_sub [] rfl ?_
      exact hK0 _ hf
    · refine z_aload_n C dX7_copyPage_11 2 rfl rfl ?_
      refine z_iload_n C dX7_copyPage_12 3 rfl rfl ?_
      refine z_iload C dX7_copyPage_13 4 rfl ?_
      refine z_iadd C dX7_copyPage_15 ?_
      refine z_aload_n C dX7_copyPage_16 0 rfl rfl ?_
      refine z_iload_n C dX7_copyPage_17 1 rfl rfl ?_
      refine z_iload C dX7_copyPage_18 4 rfl ?_
      refine z_iadd C dX7_copyPage_20 ?_
      refine z_iaload C dX7_copyPage_21 hf (fun x7 hf => ?_)
      refine z_iastore C dX7_copyPage_22 hf (fun h8 hf => ?_)
      refine z_iinc C dX7_copyPage_23 (k := 4) (d := 1) rfl (by decide) (by decide) (lv' := [(4, .int (x5 + 1)), (0, .ref x1), (1, .int x2), (2, .ref x3), (3, .int x4)]) rfl ?_
      refine z_goto (tgt := 3) C dX7_copyPage_26 (by decide) ?_
      refine z_sub [1, 2, 3, 4, 0] rfl ?_
      exact ih _ _ hf
def FX7_copyPage (T : zT) (p0 : Nat) (p1 : Int32) (p2 : Nat) (p3 : Int32) (h : zH) : Option zH := LX7_copyPage_3 T p0 p1 p2 p3 (fun (h9 : zH) => some h9) FUEL 0 h
set_option maxHeartbeats 4000000 in
set_option maxRecDepth 100000 in
theorem BX7_copyPage {X : zX} (C : zC X cX7_copyPage 5 RX7 "copyPage" none 0 0) {al : Bool} {hi : Nat} {h : zH} {p0 : Nat} {p1 : Int32} {p2 : Nat} {p3 : Int32} {r9 : zH} (hf : FX7_copyPage (xT X) p0 p1 p2 p3 h = some r9) : zW X 5 (zZ X al (none, hi, r9)) 0 0 al hi h 0 [(0, .ref p0), (1, .int p1), (2, .ref p2), (3, .int p3)] [] := by
  unfold FX7_copyPage at hf
  refine z_iconst C (v := 0) dX7_copyPage_0 (by decide) ?_
  refine z_istore C dX7_copyPage_1 (by decide) (lv' := [(4, .int 0), (0, .ref p0), (1, .int p1), (2, .ref p2), (3, .int p3)]) rfl ?_
  refine z_sub [1, 2, 3, 4, 0] rfl ?_
  refine LX7_copyPage_3_ok C ?_ FUEL _ _ hf
  · intro h9 hf
    exact z_vreturn C dX7_copyPage_29 (by cases hf; rfl)
theorem MX7_copyPage (l : Launch) (D : va_G) (T : zT) (lo : Nat) (al : Bool) (hi : Nat) {h : zH} {p0 : Nat} {p1 : Int32} {p2 : Nat} {p3 : Int32} {h9 : zH} (hf : FX7_copyPage T p0 p1 p2 p3 h = some h9) : zM l yX7_copyPage (.code yX7_copyPage cX7_copyPage 5 none :: TW) ({ frames := 0, cells := 0, slots := 0, locals := 0 } : Room) D T lo al [.ref p0, .int p1, .ref p2, .int p3] hi h (none, hi, h9) :=
  z_enter (own := RX7) (nm := "copyPage") (lv := [(0, .ref p0), (1, .int p1), (2, .ref p2), (3, .int p3)]) (by decide +kernel) rfl rfl (Nat.le_of_ble_eq_true rfl) rfl (fun _ _ _ _ _ _ _ _ C => BX7_copyPage C hf)
theorem dX7_cellAt_0 : decode cX7_cellAt 0 = .ok (.bipush 10, 2) := by decide +kernel
theorem dX7_cellAt_2 : decode cX7_cellAt 2 = .ok (.bipush 9, 2) := by decide +kernel
theorem dX7_cellAt_4 : decode cX7_cellAt 4 = .ok (.bipush 9, 2) := by decide +kernel
theorem dX7_cellAt_6 : decode cX7_cellAt 6 = .ok (.iload_n 1, 1) := by decide +kernel
theorem dX7_cellAt_7 : decode cX7_cellAt 7 = .ok (.imul, 1) := by decide +kernel
theorem dX7_cellAt_8 : decode cX7_cellAt 8 = .ok (.iload_n 0, 1) := by decide +kernel
theorem dX7_cellAt_9 : decode cX7_cellAt 9 = .ok (.iadd, 1) := by decide +kernel
theorem dX7_cellAt_10 : decode cX7_cellAt 10 = .ok (.imul, 1) := by decide +kernel
theorem dX7_cellAt_11 : decode cX7_cellAt 11 = .ok (.iadd, 1) := by decide +kernel
theorem dX7_cellAt_12 : decode cX7_cellAt 12 = .ok (.ireturn, 1) := by decide +kernel
def FX7_cellAt (T : zT) (p0 : Int32) (p1 : Int32) (h : zH) : Option Int32 := some (10 + (9 * ((9 * p1) + p0)))
set_option maxHeartbeats 4000000 in
set_option maxRecDepth 100000 in
theorem BX7_cellAt {X : zX} (C : zC X cX7_cellAt 2 RX7 "cellAt" (some .int) 0 0) {al : Bool} {hi : Nat} {h : zH} {p0 : Int32} {p1 : Int32} {r9 : Int32} (hf : FX7_cellAt (xT X) p0 p1 h = some r9) : zW X 2 (zZ X al (some (.int r9), hi, h)) 0 0 al hi h 0 [(0, .int p0), (1, .int p1)] [] := by
  unfold FX7_cellAt at hf
  refine z_bipush C (v := 10) dX7_cellAt_0 (by decide) ?_
  refine z_bipush C (v := 9) dX7_cellAt_2 (by decide) ?_
  refine z_bipush C (v := 9) dX7_cellAt_4 (by decide) ?_
  refine z_iload_n C dX7_cellAt_6 1 rfl rfl ?_
  refine z_imul C dX7_cellAt_7 ?_
  refine z_iload_n C dX7_cellAt_8 0 rfl rfl ?_
  refine z_iadd C dX7_cellAt_9 ?_
  refine z_imul C dX7_cellAt_10 ?_
  refine z_iadd C dX7_cellAt_11 ?_
  exact z_ireturn C dX7_cellAt_12 (by cases hf; rfl)
theorem MX7_cellAt (l : Launch) (D : va_G) (T : zT) (lo : Nat) (al : Bool) (hi : Nat) {h : zH} {p0 : Int32} {p1 : Int32} {v9 : Int32} (hf : FX7_cellAt T p0 p1 h = some v9) : zM l yX7_cellAt (.code yX7_cellAt cX7_cellAt 2 (some .int) :: TW) ({ frames := 0, cells := 0, slots := 0, locals := 0 } : Room) D T lo al [.int p0, .int p1] hi h (some (.int v9), hi, h) :=
  z_enter (own := RX7) (nm := "cellAt") (lv := [(0, .int p0), (1, .int p1)]) (by decide +kernel) rfl rfl (Nat.le_of_ble_eq_true rfl) rfl (fun _ _ _ _ _ _ _ _ C => BX7_cellAt C hf)
theorem dX7_markAt_0 : decode cX7_markAt 0 = .ok (.iload_n 0, 1) := by decide +kernel
theorem dX7_markAt_1 : decode cX7_markAt 1 = .ok (.iconst 1, 1) := by decide +kernel
theorem dX7_markAt_2 : decode cX7_markAt 2 = .ok (.iadd, 1) := by decide +kernel
theorem dX7_markAt_3 : decode cX7_markAt 3 = .ok (.iconst 4, 1) := by decide +kernel
theorem dX7_markAt_4 : decode cX7_markAt 4 = .ok (.iload_n 1, 1) := by decide +kernel
theorem dX7_markAt_5 : decode cX7_markAt 5 = .ok (.imul, 1) := by decide +kernel
theorem dX7_markAt_6 : decode cX7_markAt 6 = .ok (.iadd, 1) := by decide +kernel
theorem dX7_markAt_7 : decode cX7_markAt 7 = .ok (.ireturn, 1) := by decide +kernel
def FX7_markAt (T : zT) (p0 : Int32) (p1 : Int32) (h : zH) : Option Int32 := some ((p0 + 1) + (4 * p1))
set_option maxHeartbeats 4000000 in
set_option maxRecDepth 100000 in
theorem BX7_markAt {X : zX} (C : zC X cX7_markAt 2 RX7 "markAt" (some .int) 0 0) {al : Bool} {hi : Nat} {h : zH} {p0 : Int32} {p1 : Int32} {r9 : Int32} (hf : FX7_markAt (xT X) p0 p1 h = some r9) : zW X 2 (zZ X al (some (.int r9), hi, h)) 0 0 al hi h 0 [(0, .int p0), (1, .int p1)] [] := by
  unfold FX7_markAt at hf
  refine z_iload_n C dX7_markAt_0 0 rfl rfl ?_
  refine z_iconst C (v := 1) dX7_markAt_1 (by decide) ?_
  refine z_iadd C dX7_markAt_2 ?_
  refine z_iconst C (v := 4) dX7_markAt_3 (by decide) ?_
  refine z_iload_n C dX7_markAt_4 1 rfl rfl ?_
  refine z_imul C dX7_markAt_5 ?_
  refine z_iadd C dX7_markAt_6 ?_
  exact z_ireturn C dX7_markAt_7 (by cases hf; rfl)
theorem MX7_markAt (l : Launch) (D : va_G) (T : zT) (lo : Nat) (al : Bool) (hi : Nat) {h : zH} {p0 : Int32} {p1 : Int32} {v9 : Int32} (hf : FX7_markAt T p0 p1 h = some v9) : zM l yX7_markAt (.code yX7_markAt cX7_markAt 2 (some .int) :: TW) ({ frames := 0, cells := 0, slots := 0, locals := 0 } : Room) D T lo al [.int p0, .int p1] hi h (some (.int v9), hi, h) :=
  z_enter (own := RX7) (nm := "markAt") (lv := [(0, .int p0), (1, .int p1)]) (by decide +kernel) rfl rfl (Nat.le_of_ble_eq_true rfl) rfl (fun _ _ _ _ _ _ _ _ C => BX7_markAt C hf)
theorem dX7_isCell_0 : decode cX7_isCell 0 = .ok (.iload_n 1, 1) := by decide +kernel
theorem dX7_isCell_1 : decode cX7_isCell 1 = .ok (.i2l, 1) := by decide +kernel
theorem dX7_isCell_2 : decode cX7_isCell 2 = .ok (.lconst 0, 1) := by decide +kernel
theorem dX7_isCell_3 : decode cX7_isCell 3 = .ok (.aload_n 0, 1) := by decide +kernel
theorem dX7_isCell_4 : decode cX7_isCell 4 = .ok (.iconst 0, 1) := by decide +kernel
theorem dX7_isCell_5 : decode cX7_isCell 5 = .ok (.iaload, 1) := by decide +kernel
theorem dX7_isCell_6 : decode cX7_isCell 6 = .ok (.iconst 1, 1) := by decide +kernel
theorem dX7_isCell_7 : decode cX7_isCell 7 = .ok (.isub, 1) := by decide +kernel
theorem dX7_isCell_8 : decode cX7_isCell 8 = .ok (.i2l, 1) := by decide +kernel
theorem dX7_isCell_9 : decode cX7_isCell 9 = .ok (.invokestatic 58, 3) := by decide +kernel
theorem dX7_isCell_12 : decode cX7_isCell 12 = .ok (.ifCond .eq 22, 3) := by decide +kernel
theorem dX7_isCell_15 : decode cX7_isCell 15 = .ok (.iload_n 2, 1) := by decide +kernel
theorem dX7_isCell_16 : decode cX7_isCell 16 = .ok (.i2l, 1) := by decide +kernel
theorem dX7_isCell_17 : decode cX7_isCell 17 = .ok (.lconst 0, 1) := by decide +kernel
theorem dX7_isCell_18 : decode cX7_isCell 18 = .ok (.aload_n 0, 1) := by decide +kernel
theorem dX7_isCell_19 : decode cX7_isCell 19 = .ok (.iconst 1, 1) := by decide +kernel
theorem dX7_isCell_20 : decode cX7_isCell 20 = .ok (.iaload, 1) := by decide +kernel
theorem dX7_isCell_21 : decode cX7_isCell 21 = .ok (.iconst 1, 1) := by decide +kernel
theorem dX7_isCell_22 : decode cX7_isCell 22 = .ok (.isub, 1) := by decide +kernel
theorem dX7_isCell_23 : decode cX7_isCell 23 = .ok (.i2l, 1) := by decide +kernel
theorem dX7_isCell_24 : decode cX7_isCell 24 = .ok (.invokestatic 58, 3) := by decide +kernel
theorem dX7_isCell_27 : decode cX7_isCell 27 = .ok (.ifCond .eq 7, 3) := by decide +kernel
theorem dX7_isCell_30 : decode cX7_isCell 30 = .ok (.iconst 1, 1) := by decide +kernel
theorem dX7_isCell_31 : decode cX7_isCell 31 = .ok (.goto 4, 3) := by decide +kernel
theorem dX7_isCell_34 : decode cX7_isCell 34 = .ok (.iconst 0, 1) := by decide +kernel
theorem dX7_isCell_35 : decode cX7_isCell 35 = .ok (.ireturn, 1) := by decide +kernel
def FX7_isCell (T : zT) (p0 : Nat) (p1 : Int32) (p2 : Int32) (h : zH) : Option Int32 := zJ (fun (x1 : Int32) => if x1 = 0 ∨ x1 = 1 then some x1 else none) (fun J2 => zJ (fun (u9 : Unit) => J2 0) (fun J3 => (zai T h p0 0).bind fun x4 => (FX7_in T p1.toInt64 (0 : Int64) ((x4 - 1).toInt64) h).bind fun x6 => if x6 = 0 then (J3 ()) else ((zai T h p0 1).bind fun x7 => (FX7_in T p2.toInt64 (0 : Int64) ((x7 - 1).toInt64) h).bind fun x9 => if x9 = 0 then (J3 ()) else (J2 1))))
set_option maxHeartbeats 4000000 in
set_option maxRecDepth 100000 in
theorem BX7_isCell {X : zX} (C : zC X cX7_isCell 3 RX7 "isCell" (some .boolean) 1 25) {al : Bool} {hi : Nat} {h : zH} {p0 : Nat} {p1 : Int32} {p2 : Int32} {r9 : Int32} (hf : FX7_isCell (xT X) p0 p1 p2 h = some r9) : zW X 3 (zZ X al (some (.int r9), hi, h)) 0 0 al hi h 0 [(0, .ref p0), (1, .int p1), (2, .int p2)] [] := by
  unfold FX7_isCell at hf
  refine z_join (P := fun J => ∀ (x1 : Int32), J x1 = some r9 → zW X 3 (zZ X al (some (.int r9), hi, h)) 0 0 al hi h 35 [] [.int x1]) hf ?_ ?_
  · intro x1 hf
    refine z_ite hf (fun c hf => ?_) (fun c hf => nomatch hf)
    exact z_zreturn C dX7_isCell_35 c (by cases hf; rfl)
  · intro J2 kJ2 hf
    refine z_join (P := fun J => ∀ (u9 : Unit), J u9 = some r9 → zW X 3 (zZ X al (some (.int r9), hi, h)) 0 0 al hi h 34 [] []) hf ?_ ?_
    · intro u9 hf
      refine z_iconst C (v := 0) dX7_isCell_34 (by decide) ?_
      exact kJ2 _ hf
    · intro J3 kJ3 hf
      refine z_iload_n C dX7_isCell_0 1 rfl rfl ?_
      refine z_i2l C dX7_isCell_1 ?_
      refine z_lconst C (v := 0) dX7_isCell_2 (by decide) ?_
      refine z_aload_n C dX7_isCell_3 0 rfl rfl ?_
      refine z_iconst C (v := 0) dX7_isCell_4 (by decide) ?_
      refine z_iaload C dX7_isCell_5 hf (fun x4 hf => ?_)
      refine z_iconst C (v := 1) dX7_isCell_6 (by decide) ?_
      refine z_isub C dX7_isCell_7 ?_
      refine z_i2l C dX7_isCell_8 ?_
      obtain ⟨x6, g5, hf⟩ := zbind hf
      refine z_callS (kc' := 0) (ks' := 0) C (MX7_in (xl X) (xD X) (xT X) (xlo X) al hi g5) cw_X7_58 ys_X7_in dX7_isCell_9 rfl (by decide) ⟨rfl, rfl⟩ (Nat.le_of_ble_eq_true rfl) (st := []) rfl ?_
      refine z_if_eq (tgt := 34) C dX7_isCell_12 (by decide) hf (fun hf => ?_) (fun hf => ?_)
      · refine z_sub [] rfl ?_
        exact kJ3 _ hf
      · refine z_iload_n C dX7_isCell_15 2 rfl rfl ?_
        refine z_i2l C dX7_isCell_16 ?_
        refine z_lconst C (v := 0) dX7_isCell_17 (by decide) ?_
        refine z_aload_n C dX7_isCell_18 0 rfl rfl ?_
        refine z_iconst C (v := 1) dX7_isCell_19 (by decide) ?_
        refine z_iaload C dX7_isCell_20 hf (fun x7 hf => ?_)
        refine z_iconst C (v := 1) dX7_isCell_21 (by decide) ?_
        refine z_isub C dX7_isCell_22 ?_
        refine z_i2l C dX7_isCell_23 ?_
        obtain ⟨x9, g8, hf⟩ := zbind hf
        refine z_callS (kc' := 0) (ks' := 0) C (MX7_in (xl X) (xD X) (xT X) (xlo X) al hi g8) cw_X7_58 ys_X7_in dX7_isCell_24 rfl (by decide) ⟨rfl, rfl⟩ (Nat.le_of_ble_eq_true rfl) (st := []) rfl ?_
        refine z_if_eq (tgt := 34) C dX7_isCell_27 (by decide) hf (fun hf => ?_) (fun hf => ?_)
        · refine z_sub [] rfl ?_
          exact kJ3 _ hf
        · refine z_iconst C (v := 1) dX7_isCell_30 (by decide) ?_
          refine z_goto (tgt := 35) C dX7_isCell_31 (by decide) ?_
          refine z_sub [] rfl ?_
          exact kJ2 _ hf
theorem MX7_isCell (l : Launch) (D : va_G) (T : zT) (lo : Nat) (al : Bool) (hi : Nat) {h : zH} {p0 : Nat} {p1 : Int32} {p2 : Int32} {v9 : Int32} (hf : FX7_isCell T p0 p1 p2 h = some v9) : zM l yX7_isCell (.code yX7_isCell cX7_isCell 3 (some .boolean) :: TW) ({ frames := 1, cells := 0, slots := 0, locals := 25 } : Room) D T lo al [.ref p0, .int p1, .int p2] hi h (some (.int v9), hi, h) :=
  z_enter (own := RX7) (nm := "isCell") (lv := [(0, .ref p0), (1, .int p1), (2, .int p2)]) (by decide +kernel) rfl rfl (Nat.le_of_ble_eq_true rfl) rfl (fun _ _ _ _ _ _ _ _ C => BX7_isCell C hf)
theorem dX7_isMark_0 : decode cX7_isMark 0 = .ok (.aload_n 0, 1) := by decide +kernel
theorem dX7_isMark_1 : decode cX7_isMark 1 = .ok (.iload_n 1, 1) := by decide +kernel
theorem dX7_isMark_2 : decode cX7_isMark 2 = .ok (.iload_n 2, 1) := by decide +kernel
theorem dX7_isMark_3 : decode cX7_isMark 3 = .ok (.invokestatic 62, 3) := by decide +kernel
theorem dX7_isMark_6 : decode cX7_isMark 6 = .ok (.ifCond .eq 26, 3) := by decide +kernel
theorem dX7_isMark_9 : decode cX7_isMark 9 = .ok (.iload_n 3, 1) := by decide +kernel
theorem dX7_isMark_10 : decode cX7_isMark 10 = .ok (.i2l, 1) := by decide +kernel
theorem dX7_isMark_11 : decode cX7_isMark 11 = .ok (.lconst 0, 1) := by decide +kernel
theorem dX7_isMark_12 : decode cX7_isMark 12 = .ok (.aload_n 0, 1) := by decide +kernel
theorem dX7_isMark_13 : decode cX7_isMark 13 = .ok (.iload_n 1, 1) := by decide +kernel
theorem dX7_isMark_14 : decode cX7_isMark 14 = .ok (.iload_n 2, 1) := by decide +kernel
theorem dX7_isMark_15 : decode cX7_isMark 15 = .ok (.invokestatic 66, 3) := by decide +kernel
theorem dX7_isMark_18 : decode cX7_isMark 18 = .ok (.iaload, 1) := by decide +kernel
theorem dX7_isMark_19 : decode cX7_isMark 19 = .ok (.iconst 1, 1) := by decide +kernel
theorem dX7_isMark_20 : decode cX7_isMark 20 = .ok (.isub, 1) := by decide +kernel
theorem dX7_isMark_21 : decode cX7_isMark 21 = .ok (.i2l, 1) := by decide +kernel
theorem dX7_isMark_22 : decode cX7_isMark 22 = .ok (.invokestatic 58, 3) := by decide +kernel
theorem dX7_isMark_25 : decode cX7_isMark 25 = .ok (.ifCond .eq 7, 3) := by decide +kernel
theorem dX7_isMark_28 : decode cX7_isMark 28 = .ok (.iconst 1, 1) := by decide +kernel
theorem dX7_isMark_29 : decode cX7_isMark 29 = .ok (.goto 4, 3) := by decide +kernel
theorem dX7_isMark_32 : decode cX7_isMark 32 = .ok (.iconst 0, 1) := by decide +kernel
theorem dX7_isMark_33 : decode cX7_isMark 33 = .ok (.ireturn, 1) := by decide +kernel
def FX7_isMark (T : zT) (p0 : Nat) (p1 : Int32) (p2 : Int32) (p3 : Int32) (h : zH) : Option Int32 := zJ (fun (x1 : Int32) => if x1 = 0 ∨ x1 = 1 then some x1 else none) (fun J2 => zJ (fun (u9 : Unit) => J2 0) (fun J3 => (FX7_isCell T p0 p1 p2 h).bind fun x5 => if x5 = 0 then (J3 ()) else ((FX7_cellAt T p1 p2 h).bind fun x7 => (zai T h p0 x7).bind fun x8 => (FX7_in T p3.toInt64 (0 : Int64) ((x8 - 1).toInt64) h).bind fun x10 => if x10 = 0 then (J3 ()) else (J2 1))))
set_option maxHeartbeats 4000000 in
set_option maxRecDepth 100000 in
theorem BX7_isMark {X : zX} (C : zC X cX7_isMark 4 RX7 "isMark" (some .boolean) 2 47) {al : Bool} {hi : Nat} {h : zH} {p0 : Nat} {p1 : Int32} {p2 : Int32} {p3 : Int32} {r9 : Int32} (hf : FX7_isMark (xT X) p0 p1 p2 p3 h = some r9) : zW X 4 (zZ X al (some (.int r9), hi, h)) 0 0 al hi h 0 [(0, .ref p0), (1, .int p1), (2, .int p2), (3, .int p3)] [] := by
  unfold FX7_isMark at hf
  refine z_join (P := fun J => ∀ (x1 : Int32), J x1 = some r9 → zW X 4 (zZ X al (some (.int r9), hi, h)) 0 0 al hi h 33 [] [.int x1]) hf ?_ ?_
  · intro x1 hf
    refine z_ite hf (fun c hf => ?_) (fun c hf => nomatch hf)
    exact z_zreturn C dX7_isMark_33 c (by cases hf; rfl)
  · intro J2 kJ2 hf
    refine z_join (P := fun J => ∀ (u9 : Unit), J u9 = some r9 → zW X 4 (zZ X al (some (.int r9), hi, h)) 0 0 al hi h 32 [] []) hf ?_ ?_
    · intro u9 hf
      refine z_iconst C (v := 0) dX7_isMark_32 (by decide) ?_
      exact kJ2 _ hf
    · intro J3 kJ3 hf
      refine z_aload_n C dX7_isMark_0 0 rfl rfl ?_
      refine z_iload_n C dX7_isMark_1 1 rfl rfl ?_
      refine z_iload_n C dX7_isMark_2 2 rfl rfl ?_
      obtain ⟨x5, g4, hf⟩ := zbind hf
      refine z_callS (kc' := 0) (ks' := 0) C (MX7_isCell (xl X) (xD X) (xT X) (xlo X) al hi g4) cw_X7_62 ys_X7_isCell dX7_isMark_3 rfl (by decide) ⟨rfl, rfl⟩ (Nat.le_of_ble_eq_true rfl) (st := []) rfl ?_
      refine z_if_eq (tgt := 32) C dX7_isMark_6 (by decide) hf (fun hf => ?_) (fun hf => ?_)
      · refine z_sub [] rfl ?_
        exact kJ3 _ hf
      · refine z_iload_n C dX7_isMark_9 3 rfl rfl ?_
        refine z_i2l C dX7_isMark_10 ?_
        refine z_lconst C (v := 0) dX7_isMark_11 (by decide) ?_
        refine z_aload_n C dX7_isMark_12 0 rfl rfl ?_
        refine z_iload_n C dX7_isMark_13 1 rfl rfl ?_
        refine z_iload_n C dX7_isMark_14 2 rfl rfl ?_
        obtain ⟨x7, g6, hf⟩ := zbind hf
        refine z_callS (kc' := 0) (ks' := 0) C (MX7_cellAt (xl X) (xD X) (xT X) (xlo X) al hi g6) cw_X7_66 ys_X7_cellAt dX7_isMark_15 rfl (by decide) ⟨rfl, rfl⟩ (Nat.le_of_ble_eq_true rfl) (st := [.ref p0, .long (0 : Int64), .long p3.toInt64]) rfl ?_
        refine z_iaload C dX7_isMark_18 hf (fun x8 hf => ?_)
        refine z_iconst C (v := 1) dX7_isMark_19 (by decide) ?_
        refine z_isub C dX7_isMark_20 ?_
        refine z_i2l C dX7_isMark_21 ?_
        obtain ⟨x10, g9, hf⟩ := zbind hf
        refine z_callS (kc' := 0) (ks' := 0) C (MX7_in (xl X) (xD X) (xT X) (xlo X) al hi g9) cw_X7_58 ys_X7_in dX7_isMark_22 rfl (by decide) ⟨rfl, rfl⟩ (Nat.le_of_ble_eq_true rfl) (st := []) rfl ?_
        refine z_if_eq (tgt := 32) C dX7_isMark_25 (by decide) hf (fun hf => ?_) (fun hf => ?_)
        · refine z_sub [] rfl ?_
          exact kJ3 _ hf
        · refine z_iconst C (v := 1) dX7_isMark_28 (by decide) ?_
          refine z_goto (tgt := 33) C dX7_isMark_29 (by decide) ?_
          refine z_sub [] rfl ?_
          exact kJ2 _ hf
theorem MX7_isMark (l : Launch) (D : va_G) (T : zT) (lo : Nat) (al : Bool) (hi : Nat) {h : zH} {p0 : Nat} {p1 : Int32} {p2 : Int32} {p3 : Int32} {v9 : Int32} (hf : FX7_isMark T p0 p1 p2 p3 h = some v9) : zM l yX7_isMark (.code yX7_isMark cX7_isMark 4 (some .boolean) :: TW) ({ frames := 2, cells := 0, slots := 0, locals := 47 } : Room) D T lo al [.ref p0, .int p1, .int p2, .int p3] hi h (some (.int v9), hi, h) :=
  z_enter (own := RX7) (nm := "isMark") (lv := [(0, .ref p0), (1, .int p1), (2, .int p2), (3, .int p3)]) (by decide +kernel) rfl rfl (Nat.le_of_ble_eq_true rfl) rfl (fun _ _ _ _ _ _ _ _ C => BX7_isMark C hf)
theorem dX7_isLetter_0 : decode cX7_isLetter 0 = .ok (.iload_n 0, 1) := by decide +kernel
theorem dX7_isLetter_1 : decode cX7_isLetter 1 = .ok (.i2l, 1) := by decide +kernel
theorem dX7_isLetter_2 : decode cX7_isLetter 2 = .ok (.lconst 0, 1) := by decide +kernel
theorem dX7_isLetter_3 : decode cX7_isLetter 3 = .ok (.lconst 1, 1) := by decide +kernel
theorem dX7_isLetter_4 : decode cX7_isLetter 4 = .ok (.invokestatic 58, 3) := by decide +kernel
theorem dX7_isLetter_7 : decode cX7_isLetter 7 = .ok (.ireturn, 1) := by decide +kernel
def FX7_isLetter (T : zT) (p0 : Int32) (h : zH) : Option Int32 := (FX7_in T p0.toInt64 (0 : Int64) (1 : Int64) h).bind fun x2 => if x2 = 0 ∨ x2 = 1 then some x2 else none
set_option maxHeartbeats 4000000 in
set_option maxRecDepth 100000 in
theorem BX7_isLetter {X : zX} (C : zC X cX7_isLetter 1 RX7 "isLetter" (some .boolean) 1 25) {al : Bool} {hi : Nat} {h : zH} {p0 : Int32} {r9 : Int32} (hf : FX7_isLetter (xT X) p0 h = some r9) : zW X 1 (zZ X al (some (.int r9), hi, h)) 0 0 al hi h 0 [(0, .int p0)] [] := by
  unfold FX7_isLetter at hf
  refine z_iload_n C dX7_isLetter_0 0 rfl rfl ?_
  refine z_i2l C dX7_isLetter_1 ?_
  refine z_lconst C (v := 0) dX7_isLetter_2 (by decide) ?_
  refine z_lconst C (v := 1) dX7_isLetter_3 (by decide) ?_
  obtain ⟨x2, g1, hf⟩ := zbind hf
  refine z_callS (kc' := 0) (ks' := 0) C (MX7_in (xl X) (xD X) (xT X) (xlo X) al hi g1) cw_X7_58 ys_X7_in dX7_isLetter_4 rfl (by decide) ⟨rfl, rfl⟩ (Nat.le_of_ble_eq_true rfl) (st := []) rfl ?_
  refine z_ite hf (fun c hf => ?_) (fun c hf => nomatch hf)
  exact z_zreturn C dX7_isLetter_7 c (by cases hf; rfl)
theorem MX7_isLetter (l : Launch) (D : va_G) (T : zT) (lo : Nat) (al : Bool) (hi : Nat) {h : zH} {p0 : Int32} {v9 : Int32} (hf : FX7_isLetter T p0 h = some v9) : zM l yX7_isLetter (.code yX7_isLetter cX7_isLetter 1 (some .boolean) :: TW) ({ frames := 1, cells := 0, slots := 0, locals := 25 } : Room) D T lo al [.int p0] hi h (some (.int v9), hi, h) :=
  z_enter (own := RX7) (nm := "isLetter") (lv := [(0, .int p0)]) (by decide +kernel) rfl rfl (Nat.le_of_ble_eq_true rfl) rfl (fun _ _ _ _ _ _ _ _ C => BX7_isLetter C hf)
theorem dX7_apart_0 : decode cX7_apart 0 = .ok (.iload_n 0, 1) := by decide +kernel
theorem dX7_apart_1 : decode cX7_apart 1 = .ok (.iload_n 1, 1) := by decide +kernel
theorem dX7_apart_2 : decode cX7_apart 2 = .ok (.if_icmp .ge 9, 3) := by decide +kernel
theorem dX7_apart_5 : decode cX7_apart 5 = .ok (.iload_n 1, 1) := by decide +kernel
theorem dX7_apart_6 : decode cX7_apart 6 = .ok (.iload_n 0, 1) := by decide +kernel
theorem dX7_apart_7 : decode cX7_apart 7 = .ok (.isub, 1) := by decide +kernel
theorem dX7_apart_8 : decode cX7_apart 8 = .ok (.goto 6, 3) := by decide +kernel
theorem dX7_apart_11 : decode cX7_apart 11 = .ok (.iload_n 0, 1) := by decide +kernel
theorem dX7_apart_12 : decode cX7_apart 12 = .ok (.iload_n 1, 1) := by decide +kernel
theorem dX7_apart_13 : decode cX7_apart 13 = .ok (.isub, 1) := by decide +kernel
theorem dX7_apart_14 : decode cX7_apart 14 = .ok (.ireturn, 1) := by decide +kernel
def FX7_apart (T : zT) (p0 : Int32) (p1 : Int32) (h : zH) : Option Int32 := zJ (fun (x1 : Int32) => some x1) (fun J2 => if p1 ≤ p0 then (J2 (p0 - p1)) else (J2 (p1 - p0)))
set_option maxHeartbeats 4000000 in
set_option maxRecDepth 100000 in
theorem BX7_apart {X : zX} (C : zC X cX7_apart 2 RX7 "apart" (some .int) 0 0) {al : Bool} {hi : Nat} {h : zH} {p0 : Int32} {p1 : Int32} {r9 : Int32} (hf : FX7_apart (xT X) p0 p1 h = some r9) : zW X 2 (zZ X al (some (.int r9), hi, h)) 0 0 al hi h 0 [(0, .int p0), (1, .int p1)] [] := by
  unfold FX7_apart at hf
  refine z_join (P := fun J => ∀ (x1 : Int32), J x1 = some r9 → zW X 2 (zZ X al (some (.int r9), hi, h)) 0 0 al hi h 14 [] [.int x1]) hf ?_ ?_
  · intro x1 hf
    exact z_ireturn C dX7_apart_14 (by cases hf; rfl)
  · intro J2 kJ2 hf
    refine z_iload_n C dX7_apart_0 0 rfl rfl ?_
    refine z_iload_n C dX7_apart_1 1 rfl rfl ?_
    refine z_icmp_ge (tgt := 11) C dX7_apart_2 (by decide) hf (fun hf => ?_) (fun hf => ?_)
    · refine z_iload_n C dX7_apart_11 0 rfl rfl ?_
      refine z_iload_n C dX7_apart_12 1 rfl rfl ?_
      refine z_isub C dX7_apart_13 ?_
      refine z_sub [] rfl ?_
      exact kJ2 _ hf
    · refine z_iload_n C dX7_apart_5 1 rfl rfl ?_
      refine z_iload_n C dX7_apart_6 0 rfl rfl ?_
      refine z_isub C dX7_apart_7 ?_
      refine z_goto (tgt := 14) C dX7_apart_8 (by decide) ?_
      refine z_sub [] rfl ?_
      exact kJ2 _ hf
theorem MX7_apart (l : Launch) (D : va_G) (T : zT) (lo : Nat) (al : Bool) (hi : Nat) {h : zH} {p0 : Int32} {p1 : Int32} {v9 : Int32} (hf : FX7_apart T p0 p1 h = some v9) : zM l yX7_apart (.code yX7_apart cX7_apart 2 (some .int) :: TW) ({ frames := 0, cells := 0, slots := 0, locals := 0 } : Room) D T lo al [.int p0, .int p1] hi h (some (.int v9), hi, h) :=
  z_enter (own := RX7) (nm := "apart") (lv := [(0, .int p0), (1, .int p1)]) (by decide +kernel) rfl rfl (Nat.le_of_ble_eq_true rfl) rfl (fun _ _ _ _ _ _ _ _ C => BX7_apart C hf)
theorem dX7_distance_0 : decode cX7_distance 0 = .ok (.iconst 3, 1) := by decide +kernel
theorem dX7_distance_1 : decode cX7_distance 1 = .ok (.aload_n 0, 1) := by decide +kernel
theorem dX7_distance_2 : decode cX7_distance 2 = .ok (.iload_n 1, 1) := by decide +kernel
theorem dX7_distance_3 : decode cX7_distance 3 = .ok (.iconst 1, 1) := by decide +kernel
theorem dX7_distance_4 : decode cX7_distance 4 = .ok (.iadd, 1) := by decide +kernel
theorem dX7_distance_5 : decode cX7_distance 5 = .ok (.iaload, 1) := by decide +kernel
theorem dX7_distance_6 : decode cX7_distance 6 = .ok (.aload_n 0, 1) := by decide +kernel
theorem dX7_distance_7 : decode cX7_distance 7 = .ok (.iconst 4, 1) := by decide +kernel
theorem dX7_distance_8 : decode cX7_distance 8 = .ok (.iconst 3, 1) := by decide +kernel
theorem dX7_distance_9 : decode cX7_distance 9 = .ok (.iload_n 2, 1) := by decide +kernel
theorem dX7_distance_10 : decode cX7_distance 10 = .ok (.imul, 1) := by decide +kernel
theorem dX7_distance_11 : decode cX7_distance 11 = .ok (.iadd, 1) := by decide +kernel
theorem dX7_distance_12 : decode cX7_distance 12 = .ok (.iaload, 1) := by decide +kernel
theorem dX7_distance_13 : decode cX7_distance 13 = .ok (.invokestatic 70, 3) := by decide +kernel
theorem dX7_distance_16 : decode cX7_distance 16 = .ok (.imul, 1) := by decide +kernel
theorem dX7_distance_17 : decode cX7_distance 17 = .ok (.aload_n 0, 1) := by decide +kernel
theorem dX7_distance_18 : decode cX7_distance 18 = .ok (.iload_n 1, 1) := by decide +kernel
theorem dX7_distance_19 : decode cX7_distance 19 = .ok (.iconst 2, 1) := by decide +kernel
theorem dX7_distance_20 : decode cX7_distance 20 = .ok (.iadd, 1) := by decide +kernel
theorem dX7_distance_21 : decode cX7_distance 21 = .ok (.iaload, 1) := by decide +kernel
theorem dX7_distance_22 : decode cX7_distance 22 = .ok (.aload_n 0, 1) := by decide +kernel
theorem dX7_distance_23 : decode cX7_distance 23 = .ok (.iconst 4, 1) := by decide +kernel
theorem dX7_distance_24 : decode cX7_distance 24 = .ok (.iconst 3, 1) := by decide +kernel
theorem dX7_distance_25 : decode cX7_distance 25 = .ok (.iload_n 2, 1) := by decide +kernel
theorem dX7_distance_26 : decode cX7_distance 26 = .ok (.imul, 1) := by decide +kernel
theorem dX7_distance_27 : decode cX7_distance 27 = .ok (.iadd, 1) := by decide +kernel
theorem dX7_distance_28 : decode cX7_distance 28 = .ok (.iconst 1, 1) := by decide +kernel
theorem dX7_distance_29 : decode cX7_distance 29 = .ok (.iadd, 1) := by decide +kernel
theorem dX7_distance_30 : decode cX7_distance 30 = .ok (.iaload, 1) := by decide +kernel
theorem dX7_distance_31 : decode cX7_distance 31 = .ok (.invokestatic 70, 3) := by decide +kernel
theorem dX7_distance_34 : decode cX7_distance 34 = .ok (.iadd, 1) := by decide +kernel
theorem dX7_distance_35 : decode cX7_distance 35 = .ok (.ireturn, 1) := by decide +kernel
def FX7_distance (T : zT) (p0 : Nat) (p1 : Int32) (p2 : Int32) (h : zH) : Option Int32 := (zai T h p0 (p1 + 1)).bind fun x1 => (zai T h p0 (4 + (3 * p2))).bind fun x2 => (FX7_apart T x1 x2 h).bind fun x4 => (zai T h p0 (p1 + 2)).bind fun x5 => (zai T h p0 ((4 + (3 * p2)) + 1)).bind fun x6 => (FX7_apart T x5 x6 h).bind fun x8 => some ((3 * x4) + x8)
set_option maxHeartbeats 4000000 in
set_option maxRecDepth 100000 in
theorem BX7_distance {X : zX} (C : zC X cX7_distance 3 RX7 "distance" (some .int) 1 21) {al : Bool} {hi : Nat} {h : zH} {p0 : Nat} {p1 : Int32} {p2 : Int32} {r9 : Int32} (hf : FX7_distance (xT X) p0 p1 p2 h = some r9) : zW X 3 (zZ X al (some (.int r9), hi, h)) 0 0 al hi h 0 [(0, .ref p0), (1, .int p1), (2, .int p2)] [] := by
  unfold FX7_distance at hf
  refine z_iconst C (v := 3) dX7_distance_0 (by decide) ?_
  refine z_aload_n C dX7_distance_1 0 rfl rfl ?_
  refine z_iload_n C dX7_distance_2 1 rfl rfl ?_
  refine z_iconst C (v := 1) dX7_distance_3 (by decide) ?_
  refine z_iadd C dX7_distance_4 ?_
  refine z_iaload C dX7_distance_5 hf (fun x1 hf => ?_)
  refine z_aload_n C dX7_distance_6 0 rfl rfl ?_
  refine z_iconst C (v := 4) dX7_distance_7 (by decide) ?_
  refine z_iconst C (v := 3) dX7_distance_8 (by decide) ?_
  refine z_iload_n C dX7_distance_9 2 rfl rfl ?_
  refine z_imul C dX7_distance_10 ?_
  refine z_iadd C dX7_distance_11 ?_
  refine z_iaload C dX7_distance_12 hf (fun x2 hf => ?_)
  obtain ⟨x4, g3, hf⟩ := zbind hf
  refine z_callS (kc' := 0) (ks' := 0) C (MX7_apart (xl X) (xD X) (xT X) (xlo X) al hi g3) cw_X7_70 ys_X7_apart dX7_distance_13 rfl (by decide) ⟨rfl, rfl⟩ (Nat.le_of_ble_eq_true rfl) (st := [.int 3]) rfl ?_
  refine z_imul C dX7_distance_16 ?_
  refine z_aload_n C dX7_distance_17 0 rfl rfl ?_
  refine z_iload_n C dX7_distance_18 1 rfl rfl ?_
  refine z_iconst C (v := 2) dX7_distance_19 (by decide) ?_
  refine z_iadd C dX7_distance_20 ?_
  refine z_iaload C dX7_distance_21 hf (fun x5 hf => ?_)
  refine z_aload_n C dX7_distance_22 0 rfl rfl ?_
  refine z_iconst C (v := 4) dX7_distance_23 (by decide) ?_
  refine z_iconst C (v := 3) dX7_distance_24 (by decide) ?_
  refine z_iload_n C dX7_distance_25 2 rfl rfl ?_
  refine z_imul C dX7_distance_26 ?_
  refine z_iadd C dX7_distance_27 ?_
  refine z_iconst C (v := 1) dX7_distance_28 (by decide) ?_
  refine z_iadd C dX7_distance_29 ?_
  refine z_iaload C dX7_distance_30 hf (fun x6 hf => ?_)
  obtain ⟨x8, g7, hf⟩ := zbind hf
  refine z_callS (kc' := 0) (ks' := 0) C (MX7_apart (xl X) (xD X) (xT X) (xlo X) al hi g7) cw_X7_70 ys_X7_apart dX7_distance_31 rfl (by decide) ⟨rfl, rfl⟩ (Nat.le_of_ble_eq_true rfl) (st := [.int (3 * x4)]) rfl ?_
  refine z_iadd C dX7_distance_34 ?_
  exact z_ireturn C dX7_distance_35 (by cases hf; rfl)
theorem MX7_distance (l : Launch) (D : va_G) (T : zT) (lo : Nat) (al : Bool) (hi : Nat) {h : zH} {p0 : Nat} {p1 : Int32} {p2 : Int32} {v9 : Int32} (hf : FX7_distance T p0 p1 p2 h = some v9) : zM l yX7_distance (.code yX7_distance cX7_distance 3 (some .int) :: TW) ({ frames := 1, cells := 0, slots := 0, locals := 21 } : Room) D T lo al [.ref p0, .int p1, .int p2] hi h (some (.int v9), hi, h) :=
  z_enter (own := RX7) (nm := "distance") (lv := [(0, .ref p0), (1, .int p1), (2, .int p2)]) (by decide +kernel) rfl rfl (Nat.le_of_ble_eq_true rfl) rfl (fun _ _ _ _ _ _ _ _ C => BX7_distance C hf)
theorem dX7_rule_0 : decode cX7_rule 0 = .ok (.iload_n 1, 1) := by decide +kernel
theorem dX7_rule_1 : decode cX7_rule 1 = .ok (.iload_n 2, 1) := by decide +kernel
theorem dX7_rule_2 : decode cX7_rule 2 = .ok (.invokestatic 73, 3) := by decide +kernel
theorem dX7_rule_5 : decode cX7_rule 5 = .ok (.istore 4, 2) := by decide +kernel
theorem dX7_rule_7 : decode cX7_rule 7 = .ok (.aload_n 0, 1) := by decide +kernel
theorem dX7_rule_8 : decode cX7_rule 8 = .ok (.iload 4, 2) := by decide +kernel
theorem dX7_rule_10 : decode cX7_rule 10 = .ok (.iconst 3, 1) := by decide +kernel
theorem dX7_rule_11 : decode cX7_rule 11 = .ok (.iadd, 1) := by decide +kernel
theorem dX7_rule_12 : decode cX7_rule 12 = .ok (.iaload, 1) := by decide +kernel
theorem dX7_rule_13 : decode cX7_rule 13 = .ok (.bipush (-9), 2) := by decide +kernel
theorem dX7_rule_15 : decode cX7_rule 15 = .ok (.if_icmp .eq 13, 3) := by decide +kernel
theorem dX7_rule_18 : decode cX7_rule 18 = .ok (.bipush 10, 2) := by decide +kernel
theorem dX7_rule_20 : decode cX7_rule 20 = .ok (.aload_n 0, 1) := by decide +kernel
theorem dX7_rule_21 : decode cX7_rule 21 = .ok (.iload 4, 2) := by decide +kernel
theorem dX7_rule_23 : decode cX7_rule 23 = .ok (.iconst 3, 1) := by decide +kernel
theorem dX7_rule_24 : decode cX7_rule 24 = .ok (.iadd, 1) := by decide +kernel
theorem dX7_rule_25 : decode cX7_rule 25 = .ok (.iaload, 1) := by decide +kernel
theorem dX7_rule_26 : decode cX7_rule 26 = .ok (.iadd, 1) := by decide +kernel
theorem dX7_rule_27 : decode cX7_rule 27 = .ok (.ireturn, 1) := by decide +kernel
theorem dX7_rule_28 : decode cX7_rule 28 = .ok (.aload_n 0, 1) := by decide +kernel
theorem dX7_rule_29 : decode cX7_rule 29 = .ok (.iload_n 1, 1) := by decide +kernel
theorem dX7_rule_30 : decode cX7_rule 30 = .ok (.iaload, 1) := by decide +kernel
theorem dX7_rule_31 : decode cX7_rule 31 = .ok (.iconst 1, 1) := by decide +kernel
theorem dX7_rule_32 : decode cX7_rule 32 = .ok (.if_icmp .ne 49, 3) := by decide +kernel
theorem dX7_rule_35 : decode cX7_rule 35 = .ok (.aload_n 0, 1) := by decide +kernel
theorem dX7_rule_36 : decode cX7_rule 36 = .ok (.iload 4, 2) := by decide +kernel
theorem dX7_rule_38 : decode cX7_rule 38 = .ok (.iconst 0, 1) := by decide +kernel
theorem dX7_rule_39 : decode cX7_rule 39 = .ok (.invokestatic 76, 3) := by decide +kernel
theorem dX7_rule_42 : decode cX7_rule 42 = .ok (.aload_n 0, 1) := by decide +kernel
theorem dX7_rule_43 : decode cX7_rule 43 = .ok (.iload 4, 2) := by decide +kernel
theorem dX7_rule_45 : decode cX7_rule 45 = .ok (.iconst 1, 1) := by decide +kernel
theorem dX7_rule_46 : decode cX7_rule 46 = .ok (.invokestatic 76, 3) := by decide +kernel
theorem dX7_rule_49 : decode cX7_rule 49 = .ok (.isub, 1) := by decide +kernel
theorem dX7_rule_50 : decode cX7_rule 50 = .ok (.istore 5, 2) := by decide +kernel
theorem dX7_rule_52 : decode cX7_rule 52 = .ok (.iload 5, 2) := by decide +kernel
theorem dX7_rule_54 : decode cX7_rule 54 = .ok (.iconst 0, 1) := by decide +kernel
theorem dX7_rule_55 : decode cX7_rule 55 = .ok (.invokestatic 70, 3) := by decide +kernel
theorem dX7_rule_58 : decode cX7_rule 58 = .ok (.iload_n 3, 1) := by decide +kernel
theorem dX7_rule_59 : decode cX7_rule 59 = .ok (.if_icmp .le 19, 3) := by decide +kernel
theorem dX7_rule_62 : decode cX7_rule 62 = .ok (.bipush 30, 2) := by decide +kernel
theorem dX7_rule_64 : decode cX7_rule 64 = .ok (.iload 5, 2) := by decide +kernel
theorem dX7_rule_66 : decode cX7_rule 66 = .ok (.ifCond .le 7, 3) := by decide +kernel
theorem dX7_rule_69 : decode cX7_rule 69 = .ok (.iconst 1, 1) := by decide +kernel
theorem dX7_rule_70 : decode cX7_rule 70 = .ok (.goto 4, 3) := by decide +kernel
theorem dX7_rule_73 : decode cX7_rule 73 = .ok (.iconst 0, 1) := by decide +kernel
theorem dX7_rule_74 : decode cX7_rule 74 = .ok (.iadd, 1) := by decide +kernel
theorem dX7_rule_75 : decode cX7_rule 75 = .ok (.goto 5, 3) := by decide +kernel
theorem dX7_rule_78 : decode cX7_rule 78 = .ok (.bipush 50, 2) := by decide +kernel
theorem dX7_rule_80 : decode cX7_rule 80 = .ok (.ireturn, 1) := by decide +kernel
theorem dX7_rule_81 : decode cX7_rule 81 = .ok (.iload_n 1, 1) := by decide +kernel
theorem dX7_rule_82 : decode cX7_rule 82 = .ok (.iconst 1, 1) := by decide +kernel
theorem dX7_rule_83 : decode cX7_rule 83 = .ok (.iload_n 2, 1) := by decide +kernel
theorem dX7_rule_84 : decode cX7_rule 84 = .ok (.isub, 1) := by decide +kernel
theorem dX7_rule_85 : decode cX7_rule 85 = .ok (.invokestatic 73, 3) := by decide +kernel
theorem dX7_rule_88 : decode cX7_rule 88 = .ok (.istore 5, 2) := by decide +kernel
theorem dX7_rule_90 : decode cX7_rule 90 = .ok (.aload_n 0, 1) := by decide +kernel
theorem dX7_rule_91 : decode cX7_rule 91 = .ok (.iload 5, 2) := by decide +kernel
theorem dX7_rule_93 : decode cX7_rule 93 = .ok (.iconst 3, 1) := by decide +kernel
theorem dX7_rule_94 : decode cX7_rule 94 = .ok (.iadd, 1) := by decide +kernel
theorem dX7_rule_95 : decode cX7_rule 95 = .ok (.iaload, 1) := by decide +kernel
theorem dX7_rule_96 : decode cX7_rule 96 = .ok (.bipush (-9), 2) := by decide +kernel
theorem dX7_rule_98 : decode cX7_rule 98 = .ok (.if_icmp .eq 13, 3) := by decide +kernel
theorem dX7_rule_101 : decode cX7_rule 101 = .ok (.bipush 21, 2) := by decide +kernel
theorem dX7_rule_103 : decode cX7_rule 103 = .ok (.aload_n 0, 1) := by decide +kernel
theorem dX7_rule_104 : decode cX7_rule 104 = .ok (.iload 5, 2) := by decide +kernel
theorem dX7_rule_106 : decode cX7_rule 106 = .ok (.iconst 3, 1) := by decide +kernel
theorem dX7_rule_107 : decode cX7_rule 107 = .ok (.iadd, 1) := by decide +kernel
theorem dX7_rule_108 : decode cX7_rule 108 = .ok (.iaload, 1) := by decide +kernel
theorem dX7_rule_109 : decode cX7_rule 109 = .ok (.isub, 1) := by decide +kernel
theorem dX7_rule_110 : decode cX7_rule 110 = .ok (.ireturn, 1) := by decide +kernel
theorem dX7_rule_111 : decode cX7_rule 111 = .ok (.aload_n 0, 1) := by decide +kernel
theorem dX7_rule_112 : decode cX7_rule 112 = .ok (.iload 4, 2) := by decide +kernel
theorem dX7_rule_114 : decode cX7_rule 114 = .ok (.iconst 0, 1) := by decide +kernel
theorem dX7_rule_115 : decode cX7_rule 115 = .ok (.invokestatic 76, 3) := by decide +kernel
theorem dX7_rule_118 : decode cX7_rule 118 = .ok (.aload_n 0, 1) := by decide +kernel
theorem dX7_rule_119 : decode cX7_rule 119 = .ok (.iload 5, 2) := by decide +kernel
theorem dX7_rule_121 : decode cX7_rule 121 = .ok (.iconst 1, 1) := by decide +kernel
theorem dX7_rule_122 : decode cX7_rule 122 = .ok (.invokestatic 76, 3) := by decide +kernel
theorem dX7_rule_125 : decode cX7_rule 125 = .ok (.iadd, 1) := by decide +kernel
theorem dX7_rule_126 : decode cX7_rule 126 = .ok (.aload_n 0, 1) := by decide +kernel
theorem dX7_rule_127 : decode cX7_rule 127 = .ok (.iload 4, 2) := by decide +kernel
theorem dX7_rule_129 : decode cX7_rule 129 = .ok (.iconst 1, 1) := by decide +kernel
theorem dX7_rule_130 : decode cX7_rule 130 = .ok (.invokestatic 76, 3) := by decide +kernel
theorem dX7_rule_133 : decode cX7_rule 133 = .ok (.isub, 1) := by decide +kernel
theorem dX7_rule_134 : decode cX7_rule 134 = .ok (.aload_n 0, 1) := by decide +kernel
theorem dX7_rule_135 : decode cX7_rule 135 = .ok (.iload 5, 2) := by decide +kernel
theorem dX7_rule_137 : decode cX7_rule 137 = .ok (.iconst 0, 1) := by decide +kernel
theorem dX7_rule_138 : decode cX7_rule 138 = .ok (.invokestatic 76, 3) := by decide +kernel
theorem dX7_rule_141 : decode cX7_rule 141 = .ok (.isub, 1) := by decide +kernel
theorem dX7_rule_142 : decode cX7_rule 142 = .ok (.istore 6, 2) := by decide +kernel
theorem dX7_rule_144 : decode cX7_rule 144 = .ok (.iload 6, 2) := by decide +kernel
theorem dX7_rule_146 : decode cX7_rule 146 = .ok (.iconst 0, 1) := by decide +kernel
theorem dX7_rule_147 : decode cX7_rule 147 = .ok (.invokestatic 70, 3) := by decide +kernel
theorem dX7_rule_150 : decode cX7_rule 150 = .ok (.iload_n 3, 1) := by decide +kernel
theorem dX7_rule_151 : decode cX7_rule 151 = .ok (.if_icmp .le 19, 3) := by decide +kernel
theorem dX7_rule_154 : decode cX7_rule 154 = .ok (.bipush 40, 2) := by decide +kernel
theorem dX7_rule_156 : decode cX7_rule 156 = .ok (.iload 6, 2) := by decide +kernel
theorem dX7_rule_158 : decode cX7_rule 158 = .ok (.ifCond .le 7, 3) := by decide +kernel
theorem dX7_rule_161 : decode cX7_rule 161 = .ok (.iconst 1, 1) := by decide +kernel
theorem dX7_rule_162 : decode cX7_rule 162 = .ok (.goto 4, 3) := by decide +kernel
theorem dX7_rule_165 : decode cX7_rule 165 = .ok (.iconst 0, 1) := by decide +kernel
theorem dX7_rule_166 : decode cX7_rule 166 = .ok (.iadd, 1) := by decide +kernel
theorem dX7_rule_167 : decode cX7_rule 167 = .ok (.goto 5, 3) := by decide +kernel
theorem dX7_rule_170 : decode cX7_rule 170 = .ok (.bipush 50, 2) := by decide +kernel
theorem dX7_rule_172 : decode cX7_rule 172 = .ok (.ireturn, 1) := by decide +kernel
def FX7_rule (T : zT) (p0 : Nat) (p1 : Int32) (p2 : Int32) (p3 : Int32) (h : zH) : Option Int32 := (FX7_markAt T p1 p2 h).bind fun x2 => (zai T h p0 (x2 + 3)).bind fun x3 => if x3 = (-9 : Int32) then ((zai T h p0 p1).bind fun x4 => if x4 = 1 then (zJ (fun (x24 : Int32) => some x24) (fun J25 => (FX7_distance T p0 x2 0 h).bind fun x27 => (FX7_distance T p0 x2 1 h).bind fun x29 => (FX7_apart T (x27 - x29) 0 h).bind fun x31 => if x31 ≤ p3 then (J25 50) else (zJ (fun (x32 : Int32) (x33 : Int32) => J25 (x33 + x32)) (fun J34 => if (x27 - x29) ≤ 0 then (J34 0 30) else (J34 1 30))))) else ((FX7_markAt T p1 (1 - p2) h).bind fun x6 => (zai T h p0 (x6 + 3)).bind fun x7 => if x7 = (-9 : Int32) then (zJ (fun (x8 : Int32) => some x8) (fun J9 => (FX7_distance T p0 x2 0 h).bind fun x11 => (FX7_distance T p0 x6 1 h).bind fun x13 => (FX7_distance T p0 x2 1 h).bind fun x15 => (FX7_distance T p0 x6 0 h).bind fun x17 => (FX7_apart T (((x11 + x13) - x15) - x17) 0 h).bind fun x19 => if x19 ≤ p3 then (J9 50) else (zJ (fun (x20 : Int32) (x21 : Int32) => J9 (x21 + x20)) (fun J22 => if (((x11 + x13) - x15) - x17) ≤ 0 then (J22 0 40) else (J22 1 40))))) else ((zai T h p0 (x6 + 3)).bind fun x23 => some (21 - x23)))) else ((zai T h p0 (x2 + 3)).bind fun x35 => some (10 + x35))
set_option maxHeartbeats 4000000 in
set_option maxRecDepth 100000 in
theorem BX7_rule {X : zX} (C : zC X cX7_rule 7 RX7 "rule" (some .int) 2 43) {al : Bool} {hi : Nat} {h : zH} {p0 : Nat} {p1 : Int32} {p2 : Int32} {p3 : Int32} {r9 : Int32} (hf : FX7_rule (xT X) p0 p1 p2 p3 h = some r9) : zW X 7 (zZ X al (some (.int r9), hi, h)) 0 0 al hi h 0 [(0, .ref p0), (1, .int p1), (2, .int p2), (3, .int p3)] [] := by
  unfold FX7_rule at hf
  refine z_iload_n C dX7_rule_0 1 rfl rfl ?_
  refine z_iload_n C dX7_rule_1 2 rfl rfl ?_
  obtain ⟨x2, g1, hf⟩ := zbind hf
  refine z_callS (kc' := 0) (ks' := 0) C (MX7_markAt (xl X) (xD X) (xT X) (xlo X) al hi g1) cw_X7_73 ys_X7_markAt dX7_rule_2 rfl (by decide) ⟨rfl, rfl⟩ (Nat.le_of_ble_eq_true rfl) (st := []) rfl ?_
  refine z_istore C dX7_rule_5 (by decide) (lv' := [(4, .int x2), (0, .ref p0), (1, .int p1), (2, .int p2), (3, .int p3)]) rfl ?_
  refine z_aload_n C dX7_rule_7 1 rfl rfl ?_
  refine z_iload C dX7_rule_8 0 rfl ?_
  refine z_iconst C (v := 3) dX7_rule_10 (by decide) ?_
  refine z_iadd C dX7_rule_11 ?_
  refine z_iaload C dX7_rule_12 hf (fun x3 hf => ?_)
  refine z_bipush C (v := (-9 : Int32)) dX7_rule_13 (by decide) ?_
  refine z_icmp_eq (tgt := 28) C dX7_rule_15 (by decide) hf (fun hf => ?_) (fun hf => ?_)
  · refine z_aload_n C dX7_rule_28 1 rfl rfl ?_
    refine z_iload_n C dX7_rule_29 2 rfl rfl ?_
    refine z_iaload C dX7_rule_30 hf (fun x4 hf => ?_)
    refine z_iconst C (v := 1) dX7_rule_31 (by decide) ?_
    refine z_icmp_ne (tgt := 81) C dX7_rule_32 (by decide) hf (fun hf => ?_) (fun hf => ?_)
    · refine z_iload_n C dX7_rule_81 2 rfl rfl ?_
      refine z_iconst C (v := 1) dX7_rule_82 (by decide) ?_
      refine z_iload_n C dX7_rule_83 3 rfl rfl ?_
      refine z_isub C dX7_rule_84 ?_
      obtain ⟨x6, g5, hf⟩ := zbind hf
      refine z_callS (kc' := 0) (ks' := 0) C (MX7_markAt (xl X) (xD X) (xT X) (xlo X) al hi g5) cw_X7_73 ys_X7_markAt dX7_rule_85 rfl (by decide) ⟨rfl, rfl⟩ (Nat.le_of_ble_eq_true rfl) (st := []) rfl ?_
      refine z_istore C dX7_rule_88 (by decide) (lv' := [(5, .int x6), (4, .int x2), (0, .ref p0), (1, .int p1), (2, .int p2), (3, .int p3)]) rfl ?_
      refine z_aload_n C dX7_rule_90 2 rfl rfl ?_
      refine z_iload C dX7_rule_91 0 rfl ?_
      refine z_iconst C (v := 3) dX7_rule_93 (by decide) ?_
      refine z_iadd C dX7_rule_94 ?_
      refine z_iaload C dX7_rule_95 hf (fun x7 hf => ?_)
      refine z_bipush C (v := (-9 : Int32)) dX7_rule_96 (by decide) ?_
      refine z_icmp_eq (tgt := 111) C dX7_rule_98 (by decide) hf (fun hf => ?_) (fun hf => ?_)
      · refine z_join (P := fun J => ∀ (x8 : Int32), J x8 = some r9 → zW X 7 (zZ X al (some (.int r9), hi, h)) 0 0 al hi h 172 [] [.int x8]) hf ?_ ?_
        · intro x8 hf
          exact z_ireturn C dX7_rule_172 (by cases hf; rfl)
        · intro J9 kJ9 hf
          refine z_aload_n C dX7_rule_111 2 rfl rfl ?_
          refine z_iload C dX7_rule_112 1 rfl ?_
          refine z_iconst C (v := 0) dX7_rule_114 (by decide) ?_
          obtain ⟨x11, g10, hf⟩ := zbind hf
          refine z_callS (kc' := 0) (ks' := 0) C (MX7_distance (xl X) (xD X) (xT X) (xlo X) al hi g10) cw_X7_76 ys_X7_distance dX7_rule_115 rfl (by decide) ⟨rfl, rfl⟩ (Nat.le_of_ble_eq_true rfl) (st := []) rfl ?_
          refine z_aload_n C dX7_rule_118 2 rfl rfl ?_
          refine z_iload C dX7_rule_119 0 rfl ?_
          refine z_iconst C (v := 1) dX7_rule_121 (by decide) ?_
          obtain ⟨x13, g12, hf⟩ := zbind hf
          refine z_callS (kc' := 0) (ks' := 0) C (MX7_distance (xl X) (xD X) (xT X) (xlo X) al hi g12) cw_X7_76 ys_X7_distance dX7_rule_122 rfl (by decide) ⟨rfl, rfl⟩ (Nat.le_of_ble_eq_true rfl) (st := [.int x11]) rfl ?_
          refine z_iadd C dX7_rule_125 ?_
          refine z_aload_n C dX7_rule_126 2 rfl rfl ?_
          refine z_iload C dX7_rule_127 1 rfl ?_
          refine z_iconst C (v := 1) dX7_rule_129 (by decide) ?_
          obtain ⟨x15, g14, hf⟩ := zbind hf
          refine z_callS (kc' := 0) (ks' := 0) C (MX7_distance (xl X) (xD X) (xT X) (xlo X) al hi g14) cw_X7_76 ys_X7_distance dX7_rule_130 rfl (by decide) ⟨rfl, rfl⟩ (Nat.le_of_ble_eq_true rfl) (st := [.int (x11 + x13)]) rfl ?_
          refine z_isub C dX7_rule_133 ?_
          refine z_aload_n C dX7_rule_134 2 rfl rfl ?_
          refine z_iload C dX7_rule_135 0 rfl ?_
          refine z_iconst C (v := 0) dX7_rule_137 (by decide) ?_
          obtain ⟨x17, g16, hf⟩ := zbind hf
          refine z_callS (kc' := 0) (ks' := 0) C (MX7_distance (xl X) (xD X) (xT X) (xlo X) al hi g16) cw_X7_76 ys_X7_distance dX7_rule_138 rfl (by decide) ⟨rfl, rfl⟩ (Nat.le_of_ble_eq_true rfl) (st := [.int ((x11 + x13) - x15)]) rfl ?_
          refine z_isub C dX7_rule_141 ?_
          refine z_istore C dX7_rule_142 (by decide) (lv' := [(6, .int (((x11 + x13) - x15) - x17)), (5, .int x6), (4, .int x2), (0, .ref p0), (1, .int p1), (2, .int p2), (3, .int p3)]) rfl ?_
          refine z_iload C dX7_rule_144 0 rfl ?_
          refine z_iconst C (v := 0) dX7_rule_146 (by decide) ?_
          obtain ⟨x19, g18, hf⟩ := zbind hf
          refine z_callS (kc' := 0) (ks' := 0) C (MX7_apart (xl X) (xD X) (xT X) (xlo X) al hi g18) cw_X7_70 ys_X7_apart dX7_rule_147 rfl (by decide) ⟨rfl, rfl⟩ (Nat.le_of_ble_eq_true rfl) (st := []) rfl ?_
          refine z_iload_n C dX7_rule_150 6 rfl rfl ?_
          refine z_icmp_le (tgt := 170) C dX7_rule_151 (by decide) hf (fun hf => ?_) (fun hf => ?_)
          · refine z_bipush C (v := 50) dX7_rule_170 (by decide) ?_
            refine z_sub [] rfl ?_
            exact kJ9 _ hf
          · refine z_join (P := fun J => ∀ (x20 : Int32) (x21 : Int32), J x20 x21 = some r9 → zW X 7 (zZ X al (some (.int r9), hi, h)) 0 0 al hi h 166 [] [.int x20, .int x21]) hf ?_ ?_
            · intro x20 x21 hf
              refine z_iadd C dX7_rule_166 ?_
              refine z_goto (tgt := 172) C dX7_rule_167 (by decide) ?_
              exact kJ9 _ hf
            · intro J22 kJ22 hf
              refine z_bipush C (v := 40) dX7_rule_154 (by decide) ?_
              refine z_iload C dX7_rule_156 0 rfl ?_
              refine z_if_le (tgt := 165) C dX7_rule_158 (by decide) hf (fun hf => ?_) (fun hf => ?_)
              · refine z_iconst C (v := 0) dX7_rule_165 (by decide) ?_
                refine z_sub [] rfl ?_
                exact kJ22 _ _ hf
              · refine z_iconst C (v := 1) dX7_rule_161 (by decide) ?_
                refine z_goto (tgt := 166) C dX7_rule_162 (by decide) ?_
                refine z_sub [] rfl ?_
                exact kJ22 _ _ hf
      · refine z_bipush C (v := 21) dX7_rule_101 (by decide) ?_
        refine z_aload_n C dX7_rule_103 2 rfl rfl ?_
        refine z_iload C dX7_rule_104 0 rfl ?_
        refine z_iconst C (v := 3) dX7_rule_106 (by decide) ?_
        refine z_iadd C dX7_rule_107 ?_
        refine z_iaload C dX7_rule_108 hf (fun x23 hf => ?_)
        refine z_isub C dX7_rule_109 ?_
        exact z_ireturn C dX7_rule_110 (by cases hf; rfl)
    · refine z_join (P := fun J => ∀ (x24 : Int32), J x24 = some r9 → zW X 7 (zZ X al (some (.int r9), hi, h)) 0 0 al hi h 80 [] [.int x24]) hf ?_ ?_
      · intro x24 hf
        exact z_ireturn C dX7_rule_80 (by cases hf; rfl)
      · intro J25 kJ25 hf
        refine z_aload_n C dX7_rule_35 1 rfl rfl ?_
        refine z_iload C dX7_rule_36 0 rfl ?_
        refine z_iconst C (v := 0) dX7_rule_38 (by decide) ?_
        obtain ⟨x27, g26, hf⟩ := zbind hf
        refine z_callS (kc' := 0) (ks' := 0) C (MX7_distance (xl X) (xD X) (xT X) (xlo X) al hi g26) cw_X7_76 ys_X7_distance dX7_rule_39 rfl (by decide) ⟨rfl, rfl⟩ (Nat.le_of_ble_eq_true rfl) (st := []) rfl ?_
        refine z_aload_n C dX7_rule_42 1 rfl rfl ?_
        refine z_iload C dX7_rule_43 0 rfl ?_
        refine z_iconst C (v := 1) dX7_rule_45 (by decide) ?_
        obtain ⟨x29, g28, hf⟩ := zbind hf
        refine z_callS (kc' := 0) (ks' := 0) C (MX7_distance (xl X) (xD X) (xT X) (xlo X) al hi g28) cw_X7_76 ys_X7_distance dX7_rule_46 rfl (by decide) ⟨rfl, rfl⟩ (Nat.le_of_ble_eq_true rfl) (st := [.int x27]) rfl ?_
        refine z_isub C dX7_rule_49 ?_
        refine z_istore C dX7_rule_50 (by decide) (lv' := [(5, .int (x27 - x29)), (4, .int x2), (0, .ref p0), (1, .int p1), (2, .int p2), (3, .int p3)]) rfl ?_
        refine z_iload C dX7_rule_52 0 rfl ?_
        refine z_iconst C (v := 0) dX7_rule_54 (by decide) ?_
        obtain ⟨x31, g30, hf⟩ := zbind hf
        refine z_callS (kc' := 0) (ks' := 0) C (MX7_apart (xl X) (xD X) (xT X) (xlo X) al hi g30) cw_X7_70 ys_X7_apart dX7_rule_55 rfl (by decide) ⟨rfl, rfl⟩ (Nat.le_of_ble_eq_true rfl) (st := []) rfl ?_
        refine z_iload_n C dX7_rule_58 5 rfl rfl ?_
        refine z_icmp_le (tgt := 78) C dX7_rule_59 (by decide) hf (fun hf => ?_) (fun hf => ?_)
        · refine z_bipush C (v := 50) dX7_rule_78 (by decide) ?_
          refine z_sub [] rfl ?_
          exact kJ25 _ hf
        · refine z_join (P := fun J => ∀ (x32 : Int32) (x33 : Int32), J x32 x33 = some r9 → zW X 7 (zZ X al (some (.int r9), hi, h)) 0 0 al hi h 74 [] [.int x32, .int x33]) hf ?_ ?_
          · intro x32 x33 hf
            refine z_iadd C dX7_rule_74 ?_
            refine z_goto (tgt := 80) C dX7_rule_75 (by decide) ?_
            exact kJ25 _ hf
          · intro J34 kJ34 hf
            refine z_bipush C (v := 30) dX7_rule_62 (by decide) ?_
            refine z_iload C dX7_rule_64 0 rfl ?_
            refine z_if_le (tgt := 73) C dX7_rule_66 (by decide) hf (fun hf => ?_) (fun hf => ?_)
            · refine z_iconst C (v := 0) dX7_rule_73 (by decide) ?_
              refine z_sub [] rfl ?_
              exact kJ34 _ _ hf
            · refine z_iconst C (v := 1) dX7_rule_69 (by decide) ?_
              refine z_goto (tgt := 74) C dX7_rule_70 (by decide) ?_
              refine z_sub [] rfl ?_
              exact kJ34 _ _ hf
  · refine z_bipush C (v := 10) dX7_rule_18 (by decide) ?_
    refine z_aload_n C dX7_rule_20 1 rfl rfl ?_
    refine z_iload C dX7_rule_21 0 rfl ?_
    refine z_iconst C (v := 3) dX7_rule_23 (by decide) ?_
    refine z_iadd C dX7_rule_24 ?_
    refine z_iaload C dX7_rule_25 hf (fun x35 hf => ?_)
    refine z_iadd C dX7_rule_26 ?_
    exact z_ireturn C dX7_rule_27 (by cases hf; rfl)
theorem MX7_rule (l : Launch) (D : va_G) (T : zT) (lo : Nat) (al : Bool) (hi : Nat) {h : zH} {p0 : Nat} {p1 : Int32} {p2 : Int32} {p3 : Int32} {v9 : Int32} (hf : FX7_rule T p0 p1 p2 p3 h = some v9) : zM l yX7_rule (.code yX7_rule cX7_rule 7 (some .int) :: TW) ({ frames := 2, cells := 0, slots := 0, locals := 43 } : Room) D T lo al [.ref p0, .int p1, .int p2, .int p3] hi h (some (.int v9), hi, h) :=
  z_enter (own := RX7) (nm := "rule") (lv := [(0, .ref p0), (1, .int p1), (2, .int p2), (3, .int p3)]) (by decide +kernel) rfl rfl (Nat.le_of_ble_eq_true rfl) rfl (fun _ _ _ _ _ _ _ _ C => BX7_rule C hf)
theorem dX7_belongs_0 : decode cX7_belongs 0 = .ok (.aload_n 0, 1) := by decide +kernel
theorem dX7_belongs_1 : decode cX7_belongs 1 = .ok (.iload_n 1, 1) := by decide +kernel
theorem dX7_belongs_2 : decode cX7_belongs 2 = .ok (.iload_n 2, 1) := by decide +kernel
theorem dX7_belongs_3 : decode cX7_belongs 3 = .ok (.aload_n 0, 1) := by decide +kernel
theorem dX7_belongs_4 : decode cX7_belongs 4 = .ok (.iconst 2, 1) := by decide +kernel
theorem dX7_belongs_5 : decode cX7_belongs 5 = .ok (.iaload, 1) := by decide +kernel
theorem dX7_belongs_6 : decode cX7_belongs 6 = .ok (.invokestatic 80, 3) := by decide +kernel
theorem dX7_belongs_9 : decode cX7_belongs 9 = .ok (.istore_n 3, 1) := by decide +kernel
theorem dX7_belongs_10 : decode cX7_belongs 10 = .ok (.iload_n 3, 1) := by decide +kernel
theorem dX7_belongs_11 : decode cX7_belongs 11 = .ok (.bipush 50, 2) := by decide +kernel
theorem dX7_belongs_13 : decode cX7_belongs 13 = .ok (.if_icmp .ne 8, 3) := by decide +kernel
theorem dX7_belongs_16 : decode cX7_belongs 16 = .ok (.bipush (-9), 2) := by decide +kernel
theorem dX7_belongs_18 : decode cX7_belongs 18 = .ok (.goto 7, 3) := by decide +kernel
theorem dX7_belongs_21 : decode cX7_belongs 21 = .ok (.iload_n 3, 1) := by decide +kernel
theorem dX7_belongs_22 : decode cX7_belongs 22 = .ok (.bipush 10, 2) := by decide +kernel
theorem dX7_belongs_24 : decode cX7_belongs 24 = .ok (.irem, 1) := by decide +kernel
theorem dX7_belongs_25 : decode cX7_belongs 25 = .ok (.ireturn, 1) := by decide +kernel
def FX7_belongs (T : zT) (p0 : Nat) (p1 : Int32) (p2 : Int32) (h : zH) : Option Int32 := zJ (fun (x1 : Int32) => some x1) (fun J2 => (zai T h p0 2).bind fun x3 => (FX7_rule T p0 p1 p2 x3 h).bind fun x5 => if x5 = 50 then (J2 (-9 : Int32)) else ((zremI x5 10).bind fun x6 => J2 x6))
set_option maxHeartbeats 4000000 in
set_option maxRecDepth 100000 in
theorem BX7_belongs {X : zX} (C : zC X cX7_belongs 4 RX7 "belongs" (some .int) 3 69) {al : Bool} {hi : Nat} {h : zH} {p0 : Nat} {p1 : Int32} {p2 : Int32} {r9 : Int32} (hf : FX7_belongs (xT X) p0 p1 p2 h = some r9) : zW X 4 (zZ X al (some (.int r9), hi, h)) 0 0 al hi h 0 [(0, .ref p0), (1, .int p1), (2, .int p2)] [] := by
  unfold FX7_belongs at hf
  refine z_join (P := fun J => ∀ (x1 : Int32), J x1 = some r9 → zW X 4 (zZ X al (some (.int r9), hi, h)) 0 0 al hi h 25 [] [.int x1]) hf ?_ ?_
  · intro x1 hf
    exact z_ireturn C dX7_belongs_25 (by cases hf; rfl)
  · intro J2 kJ2 hf
    refine z_aload_n C dX7_belongs_0 0 rfl rfl ?_
    refine z_iload_n C dX7_belongs_1 1 rfl rfl ?_
    refine z_iload_n C dX7_belongs_2 2 rfl rfl ?_
    refine z_aload_n C dX7_belongs_3 0 rfl rfl ?_
    refine z_iconst C (v := 2) dX7_belongs_4 (by decide) ?_
    refine z_iaload C dX7_belongs_5 hf (fun x3 hf => ?_)
    obtain ⟨x5, g4, hf⟩ := zbind hf
    refine z_callS (kc' := 0) (ks' := 0) C (MX7_rule (xl X) (xD X) (xT X) (xlo X) al hi g4) cw_X7_80 ys_X7_rule dX7_belongs_6 rfl (by decide) ⟨rfl, rfl⟩ (Nat.le_of_ble_eq_true rfl) (st := []) rfl ?_
    refine z_istore_n C dX7_belongs_9 rfl (by decide) (lv' := [(3, .int x5), (0, .ref p0), (1, .int p1), (2, .int p2)]) rfl ?_
    refine z_iload_n C dX7_belongs_10 0 rfl rfl ?_
    refine z_bipush C (v := 50) dX7_belongs_11 (by decide) ?_
    refine z_icmp_ne (tgt := 21) C dX7_belongs_13 (by decide) hf (fun hf => ?_) (fun hf => ?_)
    · refine z_iload_n C dX7_belongs_21 0 rfl rfl ?_
      refine z_bipush C (v := 10) dX7_belongs_22 (by decide) ?_
      refine z_irem C dX7_belongs_24 hf (fun x6 _ hf => ?_)
      refine z_sub [] rfl ?_
      exact kJ2 _ hf
    · refine z_bipush C (v := (-9 : Int32)) dX7_belongs_16 (by decide) ?_
      refine z_goto (tgt := 25) C dX7_belongs_18 (by decide) ?_
      refine z_sub [] rfl ?_
      exact kJ2 _ hf
theorem MX7_belongs (l : Launch) (D : va_G) (T : zT) (lo : Nat) (al : Bool) (hi : Nat) {h : zH} {p0 : Nat} {p1 : Int32} {p2 : Int32} {v9 : Int32} (hf : FX7_belongs T p0 p1 p2 h = some v9) : zM l yX7_belongs (.code yX7_belongs cX7_belongs 4 (some .int) :: TW) ({ frames := 3, cells := 0, slots := 0, locals := 69 } : Room) D T lo al [.ref p0, .int p1, .int p2] hi h (some (.int v9), hi, h) :=
  z_enter (own := RX7) (nm := "belongs") (lv := [(0, .ref p0), (1, .int p1), (2, .int p2)]) (by decide +kernel) rfl rfl (Nat.le_of_ble_eq_true rfl) rfl (fun _ _ _ _ _ _ _ _ C => BX7_belongs C hf)
theorem dX7_doubtsBy_0 : decode cX7_doubtsBy 0 = .ok (.iconst 0, 1) := by decide +kernel
theorem dX7_doubtsBy_1 : decode cX7_doubtsBy 1 = .ok (.istore_n 2, 1) := by decide +kernel
theorem dX7_doubtsBy_2 : decode cX7_doubtsBy 2 = .ok (.iconst 0, 1) := by decide +kernel
theorem dX7_doubtsBy_3 : decode cX7_doubtsBy 3 = .ok (.istore_n 3, 1) := by decide +kernel
theorem dX7_doubtsBy_4 : decode cX7_doubtsBy 4 = .ok (.iload_n 3, 1) := by decide +kernel
theorem dX7_doubtsBy_5 : decode cX7_doubtsBy 5 = .ok (.bipush 81, 2) := by decide +kernel
theorem dX7_doubtsBy_7 : decode cX7_doubtsBy 7 = .ok (.if_icmp .ge 58, 3) := by decide +kernel
theorem dX7_doubtsBy_10 : decode cX7_doubtsBy 10 = .ok (.bipush 10, 2) := by decide +kernel
theorem dX7_doubtsBy_12 : decode cX7_doubtsBy 12 = .ok (.bipush 9, 2) := by decide +kernel
theorem dX7_doubtsBy_14 : decode cX7_doubtsBy 14 = .ok (.iload_n 3, 1) := by decide +kernel
theorem dX7_doubtsBy_15 : decode cX7_doubtsBy 15 = .ok (.imul, 1) := by decide +kernel
theorem dX7_doubtsBy_16 : decode cX7_doubtsBy 16 = .ok (.iadd, 1) := by decide +kernel
theorem dX7_doubtsBy_17 : decode cX7_doubtsBy 17 = .ok (.istore 4, 2) := by decide +kernel
theorem dX7_doubtsBy_19 : decode cX7_doubtsBy 19 = .ok (.iconst 0, 1) := by decide +kernel
theorem dX7_doubtsBy_20 : decode cX7_doubtsBy 20 = .ok (.istore 5, 2) := by decide +kernel
theorem dX7_doubtsBy_22 : decode cX7_doubtsBy 22 = .ok (.iload 5, 2) := by decide +kernel
theorem dX7_doubtsBy_24 : decode cX7_doubtsBy 24 = .ok (.aload_n 0, 1) := by decide +kernel
theorem dX7_doubtsBy_25 : decode cX7_doubtsBy 25 = .ok (.iload 4, 2) := by decide +kernel
theorem dX7_doubtsBy_27 : decode cX7_doubtsBy 27 = .ok (.iaload, 1) := by decide +kernel
theorem dX7_doubtsBy_28 : decode cX7_doubtsBy 28 = .ok (.if_icmp .ge 31, 3) := by decide +kernel
theorem dX7_doubtsBy_31 : decode cX7_doubtsBy 31 = .ok (.iload_n 2, 1) := by decide +kernel
theorem dX7_doubtsBy_32 : decode cX7_doubtsBy 32 = .ok (.aload_n 0, 1) := by decide +kernel
theorem dX7_doubtsBy_33 : decode cX7_doubtsBy 33 = .ok (.iload 4, 2) := by decide +kernel
theorem dX7_doubtsBy_35 : decode cX7_doubtsBy 35 = .ok (.iload 5, 2) := by decide +kernel
theorem dX7_doubtsBy_37 : decode cX7_doubtsBy 37 = .ok (.iload_n 1, 1) := by decide +kernel
theorem dX7_doubtsBy_38 : decode cX7_doubtsBy 38 = .ok (.invokestatic 80, 3) := by decide +kernel
theorem dX7_doubtsBy_41 : decode cX7_doubtsBy 41 = .ok (.bipush 50, 2) := by decide +kernel
theorem dX7_doubtsBy_43 : decode cX7_doubtsBy 43 = .ok (.if_icmp .ne 7, 3) := by decide +kernel
theorem dX7_doubtsBy_46 : decode cX7_doubtsBy 46 = .ok (.iconst 1, 1) := by decide +kernel
theorem dX7_doubtsBy_47 : decode cX7_doubtsBy 47 = .ok (.goto 4, 3) := by decide +kernel
theorem dX7_doubtsBy_50 : decode cX7_doubtsBy 50 = .ok (.iconst 0, 1) := by decide +kernel
theorem dX7_doubtsBy_51 : decode cX7_doubtsBy 51 = .ok (.iadd, 1) := by decide +kernel
theorem dX7_doubtsBy_52 : decode cX7_doubtsBy 52 = .ok (.istore_n 2, 1) := by decide +kernel
theorem dX7_doubtsBy_53 : decode cX7_doubtsBy 53 = .ok (.iinc 5 1, 3) := by decide +kernel
theorem dX7_doubtsBy_56 : decode cX7_doubtsBy 56 = .ok (.goto (-34), 3) := by decide +kernel
theorem dX7_doubtsBy_59 : decode cX7_doubtsBy 59 = .ok (.iinc 3 1, 3) := by decide +kernel
theorem dX7_doubtsBy_62 : decode cX7_doubtsBy 62 = .ok (.goto (-58), 3) := by decide +kernel
theorem dX7_doubtsBy_65 : decode cX7_doubtsBy 65 = .ok (.iload_n 2, 1) := by decide +kernel
theorem dX7_doubtsBy_66 : decode cX7_doubtsBy 66 = .ok (.ireturn, 1) := by decide +kernel
def LX7_doubtsBy_22 {ρ : Type} (T : zT) (h12 : zH) (x6 : Nat) (x7 : Int32) (x8 : Int32) (x9 : Int32) (K0 : Int32 → Option ρ) : Nat → Int32 → Int32 → Option ρ
  | 0, _, _ => none
  | k + 1, x10, x11 => (zai T h12 x6 x9).bind fun x13 => if x13 ≤ x11 then (K0 x10) else (zJ (fun (x14 : Int32) (x15 : Int32) => LX7_doubtsBy_22 T h12 x6 x7 x8 x9 K0 k (x15 + x14) (x11 + 1)) (fun J16 => (FX7_rule T x6 x9 x11 x7 h12).bind fun x18 => if x18 = 50 then (J16 1 x10) else (J16 0 x10)))
set_option maxHeartbeats 4000000 in
set_option maxRecDepth 100000 in
theorem LX7_doubtsBy_22_ok {X : zX} (C : zC X cX7_doubtsBy 6 RX7 "doubtsBy" (some .int) 3 69) {Z : State → Prop} {al : Bool} {hi : Nat} {ρ : Type} {r9 : ρ} {h12 : zH} {x6 : Nat} {x7 : Int32} {x8 : Int32} {x9 : Int32} {K0 : Int32 → Option ρ} (hK0 : ∀ (y2 : Int32), K0 y2 = some r9 → zW X 6 Z 0 0 al hi h12 59 [(0, .ref x6), (1, .int x7), (2, .int y2), (3, .int x8)] []) : ∀ (k : Nat) (x10 : Int32) (x11 : Int32), LX7_doubtsBy_22 (xT X) h12 x6 x7 x8 x9 K0 k x10 x11 = some r9 → zW X 6 Z 0 0 al hi h12 22 [(0, .ref x6), (1, .int x7), (2, .int x10), (3, .int x8), (4, .int x9), (5, .int x11)] [] := by
  intro k
  induction k with
  | zero =>
    intro x10 x11 hf
    have hf : none = some r9 := hf
    cases hf
  | succ k ih =>
    intro x10 x11 hf
    rw [LX7_doubtsBy_22.eq_2] at hf
    refine z_iload C dX7_doubtsBy_22 5 rfl ?_
    refine z_aload_n C dX7_doubtsBy_24 0 rfl rfl ?_
    refine z_iload C dX7_doubtsBy_25 4 rfl ?_
    refine z_iaload C dX7_doubtsBy_27 hf (fun x13 hf => ?_)
    refine z_icmp_ge (tgt := 59) C dX7_doubtsBy_28 (by decide) hf (fun hf => ?_) (fun hf => ?_)
    · refine z_sub [0, 1, 2, 3] rfl ?_
      exact hK0 _ hf
    · refine z_join (P := fun J => ∀ (x14 : Int32) (x15 : Int32), J x14 x15 = some r9 → zW X 6 Z 0 0 al hi h12 51 [(0, .ref x6), (1, .int x7), (3, .int x8), (4, .int x9), (5, .int x11)] [.int x14, .int x15]) hf ?_ ?_
      · intro x14 x15 hf
        refine z_iadd C dX7_doubtsBy_51 ?_
        refine z_istore_n C dX7_doubtsBy_52 rfl (by decide) (lv' := [(2, .int (x15 + x14)), (0, .ref x6), (1, .int x7), (3, .int x8), (4, .int x9), (5, .int x11)]) rfl ?_
        refine z_iinc C dX7_doubtsBy_53 (k := 5) (d := 1) rfl (by decide) (by decide) (lv' := [(5, .int (x11 + 1)), (2, .int (x15 + x14)), (0, .ref x6), (1, .int x7), (3, .int x8), (4, .int x9)]) rfl ?_
        refine z_goto (tgt := 22) C dX7_doubtsBy_56 (by decide) ?_
        refine z_sub [2, 3, 1, 4, 5, 0] rfl ?_
        exact ih _ _ hf
      · intro J16 kJ16 hf
        refine z_iload_n C dX7_doubtsBy_31 2 rfl rfl ?_
        refine z_aload_n C dX7_doubtsBy_32 0 rfl rfl ?_
        refine z_iload C dX7_doubtsBy_33 4 rfl ?_
        refine z_iload C dX7_doubtsBy_35 5 rfl ?_
        refine z_iload_n C dX7_doubtsBy_37 1 rfl rfl ?_
        obtain ⟨x18, g17, hf⟩ := zbind hf
        refine z_callS (kc' := 0) (ks' := 0) C (MX7_rule (xl X) (xD X) (xT X) (xlo X) al hi g17) cw_X7_80 ys_X7_rule dX7_doubtsBy_38 rfl (by decide) ⟨rfl, rfl⟩ (Nat.le_of_ble_eq_true rfl) (st := [.int x10]) rfl ?_
        refine z_bipush C (v := 50) dX7_doubtsBy_41 (by decide) ?_
        refine z_icmp_ne (tgt := 50) C dX7_doubtsBy_43 (by decide) hf (fun hf => ?_) (fun hf => ?_)
        · refine z_iconst C (v := 0) dX7_doubtsBy_50 (by decide) ?_
          refine z_sub [0, 1, 3, 4, 5] rfl ?_
          exact kJ16 _ _ hf
        · refine z_iconst C (v := 1) dX7_doubtsBy_46 (by decide) ?_
          refine z_goto (tgt := 51) C dX7_doubtsBy_47 (by decide) ?_
          refine z_sub [0, 1, 3, 4, 5] rfl ?_
          exact kJ16 _ _ hf
def LX7_doubtsBy_4 {ρ : Type} (T : zT) (h5 : zH) (x1 : Nat) (x2 : Int32) (K0 : Int32 → Option ρ) : Nat → Int32 → Int32 → Option ρ
  | 0, _, _ => none
  | k + 1, x3, x4 => if 81 ≤ x4 then (K0 x3) else (LX7_doubtsBy_22 T h5 x1 x2 x4 (10 + (9 * x4)) (fun (x19 : Int32) => LX7_doubtsBy_4 T h5 x1 x2 K0 k x19 (x4 + 1)) FUEL x3 0)
set_option maxHeartbeats 4000000 in
set_option maxRecDepth 100000 in
theorem LX7_doubtsBy_4_ok {X : zX} (C : zC X cX7_doubtsBy 6 RX7 "doubtsBy" (some .int) 3 69) {Z : State → Prop} {al : Bool} {hi : Nat} {ρ : Type} {r9 : ρ} {h5 : zH} {x1 : Nat} {x2 : Int32} {K0 : Int32 → Option ρ} (hK0 : ∀ (y2 : Int32), K0 y2 = some r9 → zW X 6 Z 0 0 al hi h5 65 [(2, .int y2)] []) : ∀ (k : Nat) (x3 : Int32) (x4 : Int32), LX7_doubtsBy_4 (xT X) h5 x1 x2 K0 k x3 x4 = some r9 → zW X 6 Z 0 0 al hi h5 4 [(0, .ref x1), (1, .int x2), (2, .int x3), (3, .int x4)] [] := by
  intro k
  induction k with
  | zero =>
    intro x3 x4 hf
    have hf : none = some r9 := hf
    cases hf
  | succ k ih =>
    intro x3 x4 hf
    rw [LX7_doubtsBy_4.eq_2] at hf
    refine z_iload_n C dX7_doubtsBy_4 3 rfl rfl ?_
    refine z_bipush C (v := 81) dX7_doubtsBy_5 (by decide) ?_
    refine z_icmp_ge (tgt := 65) C dX7_doubtsBy_7 (by decide) hf (fun hf => ?_) (fun hf => ?_)
    · refine z_sub [2] rfl ?_
      exact hK0 _ hf
    · refine z_bipush C (v := 10) dX7_doubtsBy_10 (by decide) ?_
      refine z_bipush C (v := 9) dX7_doubtsBy_12 (by decide) ?_
      refine z_iload_n C dX7_doubtsBy_14 3 rfl rfl ?_
      refine z_imul C dX7_doubtsBy_15 ?_
      refine z_iadd C dX7_doubtsBy_16 ?_
      refine z_istore C dX7_doubtsBy_17 (by decide) (lv' := [(4, .int (10 + (9 * x4))), (0, .ref x1), (1, .int x2), (2, .int x3), (3, .int x4)]) rfl ?_
      refine z_iconst C (v := 0) dX7_doubtsBy_19 (by decide) ?_
      refine z_istore C dX7_doubtsBy_20 (by decide) (lv' := [(5, .int 0), (4, .int (10 + (9 * x4))), (0, .ref x1), (1, .int x2), (2, .int x3), (3, .int x4)]) rfl ?_
      refine z_sub [2, 3, 4, 5, 1, 0] rfl ?_
      refine LX7_doubtsBy_22_ok C ?_ FUEL _ _ hf
      · intro x19 hf
        refine z_iinc C dX7_doubtsBy_59 (k := 3) (d := 1) rfl (by decide) (by decide) (lv' := [(3, .int (x4 + 1)), (0, .ref x1), (1, .int x2), (2, .int x19)]) rfl ?_
        refine z_goto (tgt := 4) C dX7_doubtsBy_62 (by decide) ?_
        refine z_sub [1, 2, 3, 0] rfl ?_
        exact ih _ _ hf
def FX7_doubtsBy (T : zT) (p0 : Nat) (p1 : Int32) (h : zH) : Option Int32 := LX7_doubtsBy_4 T h p0 p1 (fun (x20 : Int32) => some x20) FUEL 0 0
set_option maxHeartbeats 4000000 in
set_option maxRecDepth 100000 in
theorem BX7_doubtsBy {X : zX} (C : zC X cX7_doubtsBy 6 RX7 "doubtsBy" (some .int) 3 69) {al : Bool} {hi : Nat} {h : zH} {p0 : Nat} {p1 : Int32} {r9 : Int32} (hf : FX7_doubtsBy (xT X) p0 p1 h = some r9) : zW X 6 (zZ X al (some (.int r9), hi, h)) 0 0 al hi h 0 [(0, .ref p0), (1, .int p1)] [] := by
  unfold FX7_doubtsBy at hf
  refine z_iconst C (v := 0) dX7_doubtsBy_0 (by decide) ?_
  refine z_istore_n C dX7_doubtsBy_1 rfl (by decide) (lv' := [(2, .int 0), (0, .ref p0), (1, .int p1)]) rfl ?_
  refine z_iconst C (v := 0) dX7_doubtsBy_2 (by decide) ?_
  refine z_istore_n C dX7_doubtsBy_3 rfl (by decide) (lv' := [(3, .int 0), (2, .int 0), (0, .ref p0), (1, .int p1)]) rfl ?_
  refine z_sub [2, 3, 1, 0] rfl ?_
  refine LX7_doubtsBy_4_ok C ?_ FUEL _ _ hf
  · intro x20 hf
    refine z_iload_n C dX7_doubtsBy_65 0 rfl rfl ?_
    exact z_ireturn C dX7_doubtsBy_66 (by cases hf; rfl)
theorem MX7_doubtsBy (l : Launch) (D : va_G) (T : zT) (lo : Nat) (al : Bool) (hi : Nat) {h : zH} {p0 : Nat} {p1 : Int32} {v9 : Int32} (hf : FX7_doubtsBy T p0 p1 h = some v9) : zM l yX7_doubtsBy (.code yX7_doubtsBy cX7_doubtsBy 6 (some .int) :: TW) ({ frames := 3, cells := 0, slots := 0, locals := 69 } : Room) D T lo al [.ref p0, .int p1] hi h (some (.int v9), hi, h) :=
  z_enter (own := RX7) (nm := "doubtsBy") (lv := [(0, .ref p0), (1, .int p1)]) (by decide +kernel) rfl rfl (Nat.le_of_ble_eq_true rfl) rfl (fun _ _ _ _ _ _ _ _ C => BX7_doubtsBy C hf)
theorem dX7_doubts_0 : decode cX7_doubts 0 = .ok (.aload_n 0, 1) := by decide +kernel
theorem dX7_doubts_1 : decode cX7_doubts 1 = .ok (.aload_n 0, 1) := by decide +kernel
theorem dX7_doubts_2 : decode cX7_doubts 2 = .ok (.iconst 2, 1) := by decide +kernel
theorem dX7_doubts_3 : decode cX7_doubts 3 = .ok (.iaload, 1) := by decide +kernel
theorem dX7_doubts_4 : decode cX7_doubts 4 = .ok (.invokestatic 84, 3) := by decide +kernel
theorem dX7_doubts_7 : decode cX7_doubts 7 = .ok (.ireturn, 1) := by decide +kernel
def FX7_doubts (T : zT) (p0 : Nat) (h : zH) : Option Int32 := (zai T h p0 2).bind fun x1 => (FX7_doubtsBy T p0 x1 h).bind fun x3 => some x3
set_option maxHeartbeats 4000000 in
set_option maxRecDepth 100000 in
theorem BX7_doubts {X : zX} (C : zC X cX7_doubts 1 RX7 "doubts" (some .int) 4 94) {al : Bool} {hi : Nat} {h : zH} {p0 : Nat} {r9 : Int32} (hf : FX7_doubts (xT X) p0 h = some r9) : zW X 1 (zZ X al (some (.int r9), hi, h)) 0 0 al hi h 0 [(0, .ref p0)] [] := by
  unfold FX7_doubts at hf
  refine z_aload_n C dX7_doubts_0 0 rfl rfl ?_
  refine z_aload_n C dX7_doubts_1 0 rfl rfl ?_
  refine z_iconst C (v := 2) dX7_doubts_2 (by decide) ?_
  refine z_iaload C dX7_doubts_3 hf (fun x1 hf => ?_)
  obtain ⟨x3, g2, hf⟩ := zbind hf
  refine z_callS (kc' := 0) (ks' := 0) C (MX7_doubtsBy (xl X) (xD X) (xT X) (xlo X) al hi g2) cw_X7_84 ys_X7_doubtsBy dX7_doubts_4 rfl (by decide) ⟨rfl, rfl⟩ (Nat.le_of_ble_eq_true rfl) (st := []) rfl ?_
  exact z_ireturn C dX7_doubts_7 (by cases hf; rfl)
theorem MX7_doubts (l : Launch) (D : va_G) (T : zT) (lo : Nat) (al : Bool) (hi : Nat) {h : zH} {p0 : Nat} {v9 : Int32} (hf : FX7_doubts T p0 h = some v9) : zM l yX7_doubts (.code yX7_doubts cX7_doubts 1 (some .int) :: TW) ({ frames := 4, cells := 0, slots := 0, locals := 94 } : Room) D T lo al [.ref p0] hi h (some (.int v9), hi, h) :=
  z_enter (own := RX7) (nm := "doubts") (lv := [(0, .ref p0)]) (by decide +kernel) rfl rfl (Nat.le_of_ble_eq_true rfl) rfl (fun _ _ _ _ _ _ _ _ C => BX7_doubts C hf)
theorem dX7_marksOf_0 : decode cX7_marksOf 0 = .ok (.iconst 0, 1) := by decide +kernel
theorem dX7_marksOf_1 : decode cX7_marksOf 1 = .ok (.istore_n 1, 1) := by decide +kernel
theorem dX7_marksOf_2 : decode cX7_marksOf 2 = .ok (.iconst 0, 1) := by decide +kernel
theorem dX7_marksOf_3 : decode cX7_marksOf 3 = .ok (.istore_n 2, 1) := by decide +kernel
theorem dX7_marksOf_4 : decode cX7_marksOf 4 = .ok (.iload_n 2, 1) := by decide +kernel
theorem dX7_marksOf_5 : decode cX7_marksOf 5 = .ok (.bipush 81, 2) := by decide +kernel
theorem dX7_marksOf_7 : decode cX7_marksOf 7 = .ok (.if_icmp .ge 21, 3) := by decide +kernel
theorem dX7_marksOf_10 : decode cX7_marksOf 10 = .ok (.iload_n 1, 1) := by decide +kernel
theorem dX7_marksOf_11 : decode cX7_marksOf 11 = .ok (.aload_n 0, 1) := by decide +kernel
theorem dX7_marksOf_12 : decode cX7_marksOf 12 = .ok (.bipush 10, 2) := by decide +kernel
theorem dX7_marksOf_14 : decode cX7_marksOf 14 = .ok (.bipush 9, 2) := by decide +kernel
theorem dX7_marksOf_16 : decode cX7_marksOf 16 = .ok (.iload_n 2, 1) := by decide +kernel
theorem dX7_marksOf_17 : decode cX7_marksOf 17 = .ok (.imul, 1) := by decide +kernel
theorem dX7_marksOf_18 : decode cX7_marksOf 18 = .ok (.iadd, 1) := by decide +kernel
theorem dX7_marksOf_19 : decode cX7_marksOf 19 = .ok (.iaload, 1) := by decide +kernel
theorem dX7_marksOf_20 : decode cX7_marksOf 20 = .ok (.iadd, 1) := by decide +kernel
theorem dX7_marksOf_21 : decode cX7_marksOf 21 = .ok (.istore_n 1, 1) := by decide +kernel
theorem dX7_marksOf_22 : decode cX7_marksOf 22 = .ok (.iinc 2 1, 3) := by decide +kernel
theorem dX7_marksOf_25 : decode cX7_marksOf 25 = .ok (.goto (-21), 3) := by decide +kernel
theorem dX7_marksOf_28 : decode cX7_marksOf 28 = .ok (.iload_n 1, 1) := by decide +kernel
theorem dX7_marksOf_29 : decode cX7_marksOf 29 = .ok (.ireturn, 1) := by decide +kernel
def LX7_marksOf_4 {ρ : Type} (T : zT) (h4 : zH) (x1 : Nat) (K0 : Int32 → Option ρ) : Nat → Int32 → Int32 → Option ρ
  | 0, _, _ => none
  | k + 1, x2, x3 => if 81 ≤ x3 then (K0 x2) else ((zai T h4 x1 (10 + (9 * x3))).bind fun x5 => LX7_marksOf_4 T h4 x1 K0 k (x2 + x5) (x3 + 1))
set_option maxHeartbeats 4000000 in
set_option maxRecDepth 100000 in
theorem LX7_marksOf_4_ok {X : zX} (C : zC X cX7_marksOf 3 RX7 "marksOf" (some .int) 0 0) {Z : State → Prop} {al : Bool} {hi : Nat} {ρ : Type} {r9 : ρ} {h4 : zH} {x1 : Nat} {K0 : Int32 → Option ρ} (hK0 : ∀ (y1 : Int32), K0 y1 = some r9 → zW X 3 Z 0 0 al hi h4 28 [(1, .int y1)] []) : ∀ (k : Nat) (x2 : Int32) (x3 : Int32), LX7_marksOf_4 (xT X) h4 x1 K0 k x2 x3 = some r9 → zW X 3 Z 0 0 al hi h4 4 [(0, .ref x1), (1, .int x2), (2, .int x3)] [] := by
  intro k
  induction k with
  | zero =>
    intro x2 x3 hf
    have hf : none = some r9 := hf
    cases hf
  | succ k ih =>
    intro x2 x3 hf
    rw [LX7_marksOf_4.eq_2] at hf
    refine z_iload_n C dX7_marksOf_4 2 rfl rfl ?_
    refine z_bipush C (v := 81) dX7_marksOf_5 (by decide) ?_
    refine z_icmp_ge (tgt := 28) C dX7_marksOf_7 (by decide) hf (fun hf => ?_) (fun hf => ?_)
    · refine z_sub [1] rfl ?_
      exact hK0 _ hf
    · refine z_iload_n C dX7_marksOf_10 1 rfl rfl ?_
      refine z_aload_n C dX7_marksOf_11 0 rfl rfl ?_
      refine z_bipush C (v := 10) dX7_marksOf_12 (by decide) ?_
      refine z_bipush C (v := 9) dX7_marksOf_14 (by decide) ?_
      refine z_iload_n C dX7_marksOf_16 2 rfl rfl ?_
      refine z_imul C dX7_marksOf_17 ?_
      refine z_iadd C dX7_marksOf_18 ?_
      refine z_iaload C dX7_marksOf_19 hf (fun x5 hf => ?_)
      refine z_iadd C dX7_marksOf_20 ?_
      refine z_istore_n C dX7_marksOf_21 rfl (by decide) (lv' := [(1, .int (x2 + x5)), (0, .ref x1), (2, .int x3)]) rfl ?_
      refine z_iinc C dX7_marksOf_22 (k := 2) (d := 1) rfl (by decide) (by decide) (lv' := [(2, .int (x3 + 1)), (1, .int (x2 + x5)), (0, .ref x1)]) rfl ?_
      refine z_goto (tgt := 4) C dX7_marksOf_25 (by decide) ?_
      refine z_sub [2, 1, 0] rfl ?_
      exact ih _ _ hf
def FX7_marksOf (T : zT) (p0 : Nat) (h : zH) : Option Int32 := LX7_marksOf_4 T h p0 (fun (x6 : Int32) => some x6) FUEL 0 0
set_option maxHeartbeats 4000000 in
set_option maxRecDepth 100000 in
theorem BX7_marksOf {X : zX} (C : zC X cX7_marksOf 3 RX7 "marksOf" (some .int) 0 0) {al : Bool} {hi : Nat} {h : zH} {p0 : Nat} {r9 : Int32} (hf : FX7_marksOf (xT X) p0 h = some r9) : zW X 3 (zZ X al (some (.int r9), hi, h)) 0 0 al hi h 0 [(0, .ref p0)] [] := by
  unfold FX7_marksOf at hf
  refine z_iconst C (v := 0) dX7_marksOf_0 (by decide) ?_
  refine z_istore_n C dX7_marksOf_1 rfl (by decide) (lv' := [(1, .int 0), (0, .ref p0)]) rfl ?_
  refine z_iconst C (v := 0) dX7_marksOf_2 (by decide) ?_
  refine z_istore_n C dX7_marksOf_3 rfl (by decide) (lv' := [(2, .int 0), (1, .int 0), (0, .ref p0)]) rfl ?_
  refine z_sub [2, 1, 0] rfl ?_
  refine LX7_marksOf_4_ok C ?_ FUEL _ _ hf
  · intro x6 hf
    refine z_iload_n C dX7_marksOf_28 0 rfl rfl ?_
    exact z_ireturn C dX7_marksOf_29 (by cases hf; rfl)
theorem MX7_marksOf (l : Launch) (D : va_G) (T : zT) (lo : Nat) (al : Bool) (hi : Nat) {h : zH} {p0 : Nat} {v9 : Int32} (hf : FX7_marksOf T p0 h = some v9) : zM l yX7_marksOf (.code yX7_marksOf cX7_marksOf 3 (some .int) :: TW) ({ frames := 0, cells := 0, slots := 0, locals := 0 } : Room) D T lo al [.ref p0] hi h (some (.int v9), hi, h) :=
  z_enter (own := RX7) (nm := "marksOf") (lv := [(0, .ref p0)]) (by decide +kernel) rfl rfl (Nat.le_of_ble_eq_true rfl) rfl (fun _ _ _ _ _ _ _ _ C => BX7_marksOf C hf)
theorem dX7_signIn_0 : decode cX7_signIn 0 = .ok (.iconst 0, 1) := by decide +kernel
theorem dX7_signIn_1 : decode cX7_signIn 1 = .ok (.istore_n 3, 1) := by decide +kernel
theorem dX7_signIn_2 : decode cX7_signIn 2 = .ok (.iload_n 3, 1) := by decide +kernel
theorem dX7_signIn_3 : decode cX7_signIn 3 = .ok (.aload_n 0, 1) := by decide +kernel
theorem dX7_signIn_4 : decode cX7_signIn 4 = .ok (.iload_n 1, 1) := by decide +kernel
theorem dX7_signIn_5 : decode cX7_signIn 5 = .ok (.iaload, 1) := by decide +kernel
theorem dX7_signIn_6 : decode cX7_signIn 6 = .ok (.if_icmp .ge 27, 3) := by decide +kernel
theorem dX7_signIn_9 : decode cX7_signIn 9 = .ok (.aload_n 0, 1) := by decide +kernel
theorem dX7_signIn_10 : decode cX7_signIn 10 = .ok (.iload_n 1, 1) := by decide +kernel
theorem dX7_signIn_11 : decode cX7_signIn 11 = .ok (.iload_n 3, 1) := by decide +kernel
theorem dX7_signIn_12 : decode cX7_signIn 12 = .ok (.invokestatic 88, 3) := by decide +kernel
theorem dX7_signIn_15 : decode cX7_signIn 15 = .ok (.iload_n 2, 1) := by decide +kernel
theorem dX7_signIn_16 : decode cX7_signIn 16 = .ok (.if_icmp .ne 11, 3) := by decide +kernel
theorem dX7_signIn_19 : decode cX7_signIn 19 = .ok (.aload_n 0, 1) := by decide +kernel
theorem dX7_signIn_20 : decode cX7_signIn 20 = .ok (.iload_n 1, 1) := by decide +kernel
theorem dX7_signIn_21 : decode cX7_signIn 21 = .ok (.iload_n 3, 1) := by decide +kernel
theorem dX7_signIn_22 : decode cX7_signIn 22 = .ok (.invokestatic 73, 3) := by decide +kernel
theorem dX7_signIn_25 : decode cX7_signIn 25 = .ok (.iaload, 1) := by decide +kernel
theorem dX7_signIn_26 : decode cX7_signIn 26 = .ok (.ireturn, 1) := by decide +kernel
theorem dX7_signIn_27 : decode cX7_signIn 27 = .ok (.iinc 3 1, 3) := by decide +kernel
theorem dX7_signIn_30 : decode cX7_signIn 30 = .ok (.goto (-28), 3) := by decide +kernel
theorem dX7_signIn_33 : decode cX7_signIn 33 = .ok (.bipush (-9), 2) := by decide +kernel
theorem dX7_signIn_35 : decode cX7_signIn 35 = .ok (.ireturn, 1) := by decide +kernel
def LX7_signIn_2 {ρ : Type} (T : zT) (h5 : zH) (x1 : Nat) (x2 : Int32) (x3 : Int32) (K0 : Int32 → Option ρ) (K1 : Unit → Option ρ) : Nat → Int32 → Option ρ
  | 0, _ => none
  | k + 1, x4 => (zai T h5 x1 x2).bind fun x6 => if x6 ≤ x4 then (K1 ()) else ((FX7_belongs T x1 x2 x4 h5).bind fun x8 => if x8 = x3 then (K0 x4) else (LX7_signIn_2 T h5 x1 x2 x3 K0 K1 k (x4 + 1)))
set_option maxHeartbeats 4000000 in
set_option maxRecDepth 100000 in
theorem LX7_signIn_2_ok {X : zX} (C : zC X cX7_signIn 4 RX7 "signIn" (some .int) 4 92) {Z : State → Prop} {al : Bool} {hi : Nat} {ρ : Type} {r9 : ρ} {h5 : zH} {x1 : Nat} {x2 : Int32} {x3 : Int32} {K0 : Int32 → Option ρ} {K1 : Unit → Option ρ} (hK0 : ∀ (y3 : Int32), K0 y3 = some r9 → zW X 4 Z 0 0 al hi h5 19 [(0, .ref x1), (1, .int x2), (3, .int y3)] []) (hK1 : ∀ (u9 : Unit), K1 u9 = some r9 → zW X 4 Z 0 0 al hi h5 33 [] []) : ∀ (k : Nat) (x4 : Int32), LX7_signIn_2 (xT X) h5 x1 x2 x3 K0 K1 k x4 = some r9 → zW X 4 Z 0 0 al hi h5 2 [(0, .ref x1), (1, .int x2), (2, .int x3), (3, .int x4)] [] := by
  intro k
  induction k with
  | zero =>
    intro x4 hf
    have hf : none = some r9 := hf
    cases hf
  | succ k ih =>
    intro x4 hf
    rw [LX7_signIn_2.eq_2] at hf
    refine z_iload_n C dX7_signIn_2 3 rfl rfl ?_
    refine z_aload_n C dX7_signIn_3 0 rfl rfl ?_
    refine z_iload_n C dX7_signIn_4 1 rfl rfl ?_
    refine z_iaload C dX7_signIn_5 hf (fun x6 hf => ?_)
    refine z_icmp_ge (tgt := 33) C dX7_signIn_6 (by decide) hf (fun hf => ?_) (fun hf => ?_)
    · refine z_sub [] rfl ?_
      exact hK1 _ hf
    · refine z_aload_n C dX7_signIn_9 0 rfl rfl ?_
      refine z_iload_n C dX7_signIn_10 1 rfl rfl ?_
      refine z_iload_n C dX7_signIn_11 3 rfl rfl ?_
      obtain ⟨x8, g7, hf⟩ := zbind hf
      refine z_callS (kc' := 0) (ks' := 0) C (MX7_belongs (xl X) (xD X) (xT X) (xlo X) al hi g7) cw_X7_88 ys_X7_belongs dX7_signIn_12 rfl (by decide) ⟨rfl, rfl⟩ (Nat.le_of_ble_eq_true rfl) (st := []) rfl ?_
      refine z_iload_n C dX7_signIn_15 2 rfl rfl ?_
      refine z_icmp_ne (tgt := 27) C dX7_signIn_16 (by decide) hf (fun hf => ?_) (fun hf => ?_)
      · refine z_iinc C dX7_signIn_27 (k := 3) (d := 1) rfl (by decide) (by decide) (lv' := [(3, .int (x4 + 1)), (0, .ref x1), (1, .int x2), (2, .int x3)]) rfl ?_
        refine z_goto (tgt := 2) C dX7_signIn_30 (by decide) ?_
        refine z_sub [1, 2, 3, 0] rfl ?_
        exact ih _ hf
      · refine z_sub [0, 1, 3] rfl ?_
        exact hK0 _ hf
def FX7_signIn (T : zT) (p0 : Nat) (p1 : Int32) (p2 : Int32) (h : zH) : Option Int32 := LX7_signIn_2 T h p0 p1 p2 (fun (x9 : Int32) => (FX7_markAt T p1 x9 h).bind fun x11 => (zai T h p0 x11).bind fun x12 => some x12) (fun (u9 : Unit) => some (-9 : Int32)) FUEL 0
set_option maxHeartbeats 4000000 in
set_option maxRecDepth 100000 in
theorem BX7_signIn {X : zX} (C : zC X cX7_signIn 4 RX7 "signIn" (some .int) 4 92) {al : Bool} {hi : Nat} {h : zH} {p0 : Nat} {p1 : Int32} {p2 : Int32} {r9 : Int32} (hf : FX7_signIn (xT X) p0 p1 p2 h = some r9) : zW X 4 (zZ X al (some (.int r9), hi, h)) 0 0 al hi h 0 [(0, .ref p0), (1, .int p1), (2, .int p2)] [] := by
  unfold FX7_signIn at hf
  refine z_iconst C (v := 0) dX7_signIn_0 (by decide) ?_
  refine z_istore_n C dX7_signIn_1 rfl (by decide) (lv' := [(3, .int 0), (0, .ref p0), (1, .int p1), (2, .int p2)]) rfl ?_
  refine z_sub [1, 2, 3, 0] rfl ?_
  refine LX7_signIn_2_ok C ?_ ?_ FUEL _ hf
  · intro x9 hf
    refine z_aload_n C dX7_signIn_19 0 rfl rfl ?_
    refine z_iload_n C dX7_signIn_20 1 rfl rfl ?_
    refine z_iload_n C dX7_signIn_21 2 rfl rfl ?_
    obtain ⟨x11, g10, hf⟩ := zbind hf
    refine z_callS (kc' := 0) (ks' := 0) C (MX7_markAt (xl X) (xD X) (xT X) (xlo X) al hi g10) cw_X7_73 ys_X7_markAt dX7_signIn_22 rfl (by decide) ⟨rfl, rfl⟩ (Nat.le_of_ble_eq_true rfl) (st := [.ref p0]) rfl ?_
    refine z_iaload C dX7_signIn_25 hf (fun x12 hf => ?_)
    exact z_ireturn C dX7_signIn_26 (by cases hf; rfl)
  · intro u9 hf
    refine z_bipush C (v := (-9 : Int32)) dX7_signIn_33 (by decide) ?_
    exact z_ireturn C dX7_signIn_35 (by cases hf; rfl)
theorem MX7_signIn (l : Launch) (D : va_G) (T : zT) (lo : Nat) (al : Bool) (hi : Nat) {h : zH} {p0 : Nat} {p1 : Int32} {p2 : Int32} {v9 : Int32} (hf : FX7_signIn T p0 p1 p2 h = some v9) : zM l yX7_signIn (.code yX7_signIn cX7_signIn 4 (some .int) :: TW) ({ frames := 4, cells := 0, slots := 0, locals := 92 } : Room) D T lo al [.ref p0, .int p1, .int p2] hi h (some (.int v9), hi, h) :=
  z_enter (own := RX7) (nm := "signIn") (lv := [(0, .ref p0), (1, .int p1), (2, .int p2)]) (by decide +kernel) rfl rfl (Nat.le_of_ble_eq_true rfl) rfl (fun _ _ _ _ _ _ _ _ C => BX7_signIn C hf)
theorem dX7_beginWord_0 : decode cX7_beginWord 0 = .ok (.iload_n 1, 1) := by decide +kernel
theorem dX7_beginWord_1 : decode cX7_beginWord 1 = .ok (.ifCond .eq 26, 3) := by decide +kernel
theorem dX7_beginWord_4 : decode cX7_beginWord 4 = .ok (.aload_n 0, 1) := by decide +kernel
theorem dX7_beginWord_5 : decode cX7_beginWord 5 = .ok (.getfield 38, 3) := by decide +kernel
theorem dX7_beginWord_8 : decode cX7_beginWord 8 = .ok (.aload_n 0, 1) := by decide +kernel
theorem dX7_beginWord_9 : decode cX7_beginWord 9 = .ok (.getfield 91, 3) := by decide +kernel
theorem dX7_beginWord_12 : decode cX7_beginWord 12 = .ok (.aload_n 0, 1) := by decide +kernel
theorem dX7_beginWord_13 : decode cX7_beginWord 13 = .ok (.getfield 94, 3) := by decide +kernel
theorem dX7_beginWord_16 : decode cX7_beginWord 16 = .ok (.iastore, 1) := by decide +kernel
theorem dX7_beginWord_17 : decode cX7_beginWord 17 = .ok (.aload_n 0, 1) := by decide +kernel
theorem dX7_beginWord_18 : decode cX7_beginWord 18 = .ok (.dup, 1) := by decide +kernel
theorem dX7_beginWord_19 : decode cX7_beginWord 19 = .ok (.getfield 91, 3) := by decide +kernel
theorem dX7_beginWord_22 : decode cX7_beginWord 22 = .ok (.iconst 1, 1) := by decide +kernel
theorem dX7_beginWord_23 : decode cX7_beginWord 23 = .ok (.iadd, 1) := by decide +kernel
theorem dX7_beginWord_24 : decode cX7_beginWord 24 = .ok (.putfield 91, 3) := by decide +kernel
theorem dX7_beginWord_27 : decode cX7_beginWord 27 = .ok (.return_, 1) := by decide +kernel
def FX7_beginWord (T : zT) (a0 : Nat) (p0 : Int32) (h : zH) : Option zH := (zo h a0 7).bind fun _ => zJ (fun (h1 : zH) => some h1) (fun J2 => if p0 = 0 then (J2 h) else ((zgr h a0 7 13).bind fun x3 => (zgi h a0 7 15).bind fun x4 => (zgi h a0 7 16).bind fun x5 => (zas T h x3 x4 x5).bind fun h6 => (zgi h6 a0 7 15).bind fun x7 => (zpv h6 a0 7 15 (.int (x7 + 1))).bind fun h8 => J2 h8))
set_option maxHeartbeats 4000000 in
set_option maxRecDepth 100000 in
theorem BX7_beginWord {X : zX} (C : zC X cX7_beginWord 2 RX7 "beginWord" none 0 0) {al : Bool} {hi : Nat} {h : zH} {a0 : Nat} {p0 : Int32} {r9 : zH} (hf : FX7_beginWord (xT X) a0 p0 h = some r9) : zW X 2 (zZ X al (none, hi, r9)) 0 0 al hi h 0 [(0, .ref a0), (1, .int p0)] [] := by
  unfold FX7_beginWord at hf
  obtain ⟨_, _, hf⟩ := zbind hf
  refine z_join (P := fun J => ∀ (h1 : zH), J h1 = some r9 → zW X 2 (zZ X al (none, hi, r9)) 0 0 al hi h1 27 [] []) hf ?_ ?_
  · intro h1 hf
    exact z_vreturn C dX7_beginWord_27 (by cases hf; rfl)
  · intro J2 kJ2 hf
    refine z_iload_n C dX7_beginWord_0 1 rfl rfl ?_
    refine z_if_eq (tgt := 27) C dX7_beginWord_1 (by decide) hf (fun hf => ?_) (fun hf => ?_)
    · refine z_sub [] rfl ?_
      exact kJ2 _ hf
    · refine z_aload_n C dX7_beginWord_4 0 rfl rfl ?_
      refine z_getR C fl_X7_38 dX7_beginWord_5 hf (fun x3 hf => ?_)
      refine z_aload_n C dX7_beginWord_8 0 rfl rfl ?_
      refine z_getI C fl_X7_91 dX7_beginWord_9 hf (fun x4 hf => ?_)
      refine z_aload_n C dX7_beginWord_12 0 rfl rfl ?_
      refine z_getI C fl_X7_94 dX7_beginWord_13 hf (fun x5 hf => ?_)
      refine z_iastore C dX7_beginWord_16 hf (fun h6 hf => ?_)
      refine z_aload_n C dX7_beginWord_17 0 rfl rfl ?_
      refine z_dup C dX7_beginWord_18 rfl ?_
      refine z_getI C fl_X7_91 dX7_beginWord_19 hf (fun x7 hf => ?_)
      refine z_iconst C (v := 1) dX7_beginWord_22 (by decide) ?_
      refine z_iadd C dX7_beginWord_23 ?_
      refine z_put C fl_X7_91 dX7_beginWord_24 rfl rfl hf (fun h8 hf => ?_)
      refine z_sub [] rfl ?_
      exact kJ2 _ hf
theorem MX7_beginWord (l : Launch) (D : va_G) (T : zT) (lo : Nat) (al : Bool) (hi : Nat) {h : zH} {a0 : Nat} {p0 : Int32} {h9 : zH} (hf : FX7_beginWord T a0 p0 h = some h9) : zM l yX7_beginWord (.code yX7_beginWord cX7_beginWord 2 none :: TW) ({ frames := 0, cells := 0, slots := 0, locals := 0 } : Room) D T lo al [.ref a0, .int p0] hi h (none, hi, h9) :=
  z_enter (own := RX7) (nm := "beginWord") (lv := [(0, .ref a0), (1, .int p0)]) (by decide +kernel) rfl rfl (Nat.le_of_ble_eq_true rfl) rfl (fun _ _ _ _ _ _ _ _ C => BX7_beginWord C hf)
theorem OX7_beginWord {T : zT} {h : zH} {a0 : Nat} {p0 : Int32} {r9 : zH} (hf : FX7_beginWord T a0 p0 h = some r9) : ∃ fs, h a0 = some (.inr (7, fs)) := by
  obtain ⟨_, h1, _⟩ := zbind hf
  exact zo_obj h1
theorem dX7_layWords_0 : decode cX7_layWords 0 = .ok (.aload_n 1, 1) := by decide +kernel
theorem dX7_layWords_1 : decode cX7_layWords 1 = .ok (.iconst 4, 1) := by decide +kernel
theorem dX7_layWords_2 : decode cX7_layWords 2 = .ok (.iconst 3, 1) := by decide +kernel
theorem dX7_layWords_3 : decode cX7_layWords 3 = .ok (.iload_n 2, 1) := by decide +kernel
theorem dX7_layWords_4 : decode cX7_layWords 4 = .ok (.imul, 1) := by decide +kernel
theorem dX7_layWords_5 : decode cX7_layWords 5 = .ok (.iadd, 1) := by decide +kernel
theorem dX7_layWords_6 : decode cX7_layWords 6 = .ok (.iconst 2, 1) := by decide +kernel
theorem dX7_layWords_7 : decode cX7_layWords 7 = .ok (.iadd, 1) := by decide +kernel
theorem dX7_layWords_8 : decode cX7_layWords 8 = .ok (.iaload, 1) := by decide +kernel
theorem dX7_layWords_9 : decode cX7_layWords 9 = .ok (.ifCond .ne 7, 3) := by decide +kernel
theorem dX7_layWords_12 : decode cX7_layWords 12 = .ok (.iconst 1, 1) := by decide +kernel
theorem dX7_layWords_13 : decode cX7_layWords 13 = .ok (.goto 4, 3) := by decide +kernel
theorem dX7_layWords_16 : decode cX7_layWords 16 = .ok (.iconst 0, 1) := by decide +kernel
theorem dX7_layWords_17 : decode cX7_layWords 17 = .ok (.istore 4, 2) := by decide +kernel
theorem dX7_layWords_19 : decode cX7_layWords 19 = .ok (.iload 4, 2) := by decide +kernel
theorem dX7_layWords_21 : decode cX7_layWords 21 = .ok (.ifCond .eq 9, 3) := by decide +kernel
theorem dX7_layWords_24 : decode cX7_layWords 24 = .ok (.aload_n 1, 1) := by decide +kernel
theorem dX7_layWords_25 : decode cX7_layWords 25 = .ok (.iconst 1, 1) := by decide +kernel
theorem dX7_layWords_26 : decode cX7_layWords 26 = .ok (.iaload, 1) := by decide +kernel
theorem dX7_layWords_27 : decode cX7_layWords 27 = .ok (.goto 6, 3) := by decide +kernel
theorem dX7_layWords_30 : decode cX7_layWords 30 = .ok (.aload_n 1, 1) := by decide +kernel
theorem dX7_layWords_31 : decode cX7_layWords 31 = .ok (.iconst 0, 1) := by decide +kernel
theorem dX7_layWords_32 : decode cX7_layWords 32 = .ok (.iaload, 1) := by decide +kernel
theorem dX7_layWords_33 : decode cX7_layWords 33 = .ok (.istore 5, 2) := by decide +kernel
theorem dX7_layWords_35 : decode cX7_layWords 35 = .ok (.iload 4, 2) := by decide +kernel
theorem dX7_layWords_37 : decode cX7_layWords 37 = .ok (.ifCond .eq 9, 3) := by decide +kernel
theorem dX7_layWords_40 : decode cX7_layWords 40 = .ok (.aload_n 1, 1) := by decide +kernel
theorem dX7_layWords_41 : decode cX7_layWords 41 = .ok (.iconst 0, 1) := by decide +kernel
theorem dX7_layWords_42 : decode cX7_layWords 42 = .ok (.iaload, 1) := by decide +kernel
theorem dX7_layWords_43 : decode cX7_layWords 43 = .ok (.goto 6, 3) := by decide +kernel
theorem dX7_layWords_46 : decode cX7_layWords 46 = .ok (.aload_n 1, 1) := by decide +kernel
theorem dX7_layWords_47 : decode cX7_layWords 47 = .ok (.iconst 1, 1) := by decide +kernel
theorem dX7_layWords_48 : decode cX7_layWords 48 = .ok (.iaload, 1) := by decide +kernel
theorem dX7_layWords_49 : decode cX7_layWords 49 = .ok (.istore 6, 2) := by decide +kernel
theorem dX7_layWords_51 : decode cX7_layWords 51 = .ok (.iconst 0, 1) := by decide +kernel
theorem dX7_layWords_52 : decode cX7_layWords 52 = .ok (.istore 7, 2) := by decide +kernel
theorem dX7_layWords_54 : decode cX7_layWords 54 = .ok (.aload_n 0, 1) := by decide +kernel
theorem dX7_layWords_55 : decode cX7_layWords 55 = .ok (.iconst 0, 1) := by decide +kernel
theorem dX7_layWords_56 : decode cX7_layWords 56 = .ok (.putfield 91, 3) := by decide +kernel
theorem dX7_layWords_59 : decode cX7_layWords 59 = .ok (.aload_n 0, 1) := by decide +kernel
theorem dX7_layWords_60 : decode cX7_layWords 60 = .ok (.iconst 0, 1) := by decide +kernel
theorem dX7_layWords_61 : decode cX7_layWords 61 = .ok (.putfield 94, 3) := by decide +kernel
theorem dX7_layWords_64 : decode cX7_layWords 64 = .ok (.iconst 0, 1) := by decide +kernel
theorem dX7_layWords_65 : decode cX7_layWords 65 = .ok (.istore 8, 2) := by decide +kernel
theorem dX7_layWords_67 : decode cX7_layWords 67 = .ok (.iload 8, 2) := by decide +kernel
theorem dX7_layWords_69 : decode cX7_layWords 69 = .ok (.bipush 81, 2) := by decide +kernel
theorem dX7_layWords_71 : decode cX7_layWords 71 = .ok (.if_icmp .ge 18, 3) := by decide +kernel
theorem dX7_layWords_74 : decode cX7_layWords 74 = .ok (.aload_n 0, 1) := by decide +kernel
theorem dX7_layWords_75 : decode cX7_layWords 75 = .ok (.getfield 35, 3) := by decide +kernel
theorem dX7_layWords_78 : decode cX7_layWords 78 = .ok (.iload 8, 2) := by decide +kernel
theorem dX7_layWords_80 : decode cX7_layWords 80 = .ok (.bipush (-9), 2) := by decide +kernel
theorem dX7_layWords_82 : decode cX7_layWords 82 = .ok (.iastore, 1) := by decide +kernel
theorem dX7_layWords_83 : decode cX7_layWords 83 = .ok (.iinc 8 1, 3) := by decide +kernel
theorem dX7_layWords_86 : decode cX7_layWords 86 = .ok (.goto (-19), 3) := by decide +kernel
theorem dX7_layWords_89 : decode cX7_layWords 89 = .ok (.iconst 0, 1) := by decide +kernel
theorem dX7_layWords_90 : decode cX7_layWords 90 = .ok (.istore 8, 2) := by decide +kernel
theorem dX7_layWords_92 : decode cX7_layWords 92 = .ok (.iload 8, 2) := by decide +kernel
theorem dX7_layWords_94 : decode cX7_layWords 94 = .ok (.iload 5, 2) := by decide +kernel
theorem dX7_layWords_96 : decode cX7_layWords 96 = .ok (.if_icmp .ge 205, 3) := by decide +kernel
theorem dX7_layWords_99 : decode cX7_layWords 99 = .ok (.bipush (-9), 2) := by decide +kernel
theorem dX7_layWords_101 : decode cX7_layWords 101 = .ok (.istore 9, 2) := by decide +kernel
theorem dX7_layWords_103 : decode cX7_layWords 103 = .ok (.iconst 0, 1) := by decide +kernel
theorem dX7_layWords_104 : decode cX7_layWords 104 = .ok (.istore 10, 2) := by decide +kernel
theorem dX7_layWords_106 : decode cX7_layWords 106 = .ok (.iload 10, 2) := by decide +kernel
theorem dX7_layWords_108 : decode cX7_layWords 108 = .ok (.iload 6, 2) := by decide +kernel
theorem dX7_layWords_110 : decode cX7_layWords 110 = .ok (.if_icmp .ge 149, 3) := by decide +kernel
theorem dX7_layWords_113 : decode cX7_layWords 113 = .ok (.iload 4, 2) := by decide +kernel
theorem dX7_layWords_115 : decode cX7_layWords 115 = .ok (.ifCond .eq 8, 3) := by decide +kernel
theorem dX7_layWords_118 : decode cX7_layWords 118 = .ok (.iload 10, 2) := by decide +kernel
theorem dX7_layWords_120 : decode cX7_layWords 120 = .ok (.goto 5, 3) := by decide +kernel
theorem dX7_layWords_123 : decode cX7_layWords 123 = .ok (.iload 8, 2) := by decide +kernel
theorem dX7_layWords_125 : decode cX7_layWords 125 = .ok (.istore 11, 2) := by decide +kernel
theorem dX7_layWords_127 : decode cX7_layWords 127 = .ok (.iload 4, 2) := by decide +kernel
theorem dX7_layWords_129 : decode cX7_layWords 129 = .ok (.ifCond .eq 8, 3) := by decide +kernel
theorem dX7_layWords_132 : decode cX7_layWords 132 = .ok (.iload 8, 2) := by decide +kernel
theorem dX7_layWords_134 : decode cX7_layWords 134 = .ok (.goto 5, 3) := by decide +kernel
theorem dX7_layWords_137 : decode cX7_layWords 137 = .ok (.iload 10, 2) := by decide +kernel
theorem dX7_layWords_139 : decode cX7_layWords 139 = .ok (.istore 12, 2) := by decide +kernel
theorem dX7_layWords_141 : decode cX7_layWords 141 = .ok (.aload_n 1, 1) := by decide +kernel
theorem dX7_layWords_142 : decode cX7_layWords 142 = .ok (.iload 11, 2) := by decide +kernel
theorem dX7_layWords_144 : decode cX7_layWords 144 = .ok (.iload 12, 2) := by decide +kernel
theorem dX7_layWords_146 : decode cX7_layWords 146 = .ok (.invokestatic 66, 3) := by decide +kernel
theorem dX7_layWords_149 : decode cX7_layWords 149 = .ok (.iload_n 2, 1) := by decide +kernel
theorem dX7_layWords_150 : decode cX7_layWords 150 = .ok (.invokestatic 97, 3) := by decide +kernel
theorem dX7_layWords_153 : decode cX7_layWords 153 = .ok (.istore 13, 2) := by decide +kernel
theorem dX7_layWords_155 : decode cX7_layWords 155 = .ok (.iload 13, 2) := by decide +kernel
theorem dX7_layWords_157 : decode cX7_layWords 157 = .ok (.bipush (-9), 2) := by decide +kernel
theorem dX7_layWords_159 : decode cX7_layWords 159 = .ok (.if_icmp .eq 94, 3) := by decide +kernel
theorem dX7_layWords_162 : decode cX7_layWords 162 = .ok (.iload 9, 2) := by decide +kernel
theorem dX7_layWords_164 : decode cX7_layWords 164 = .ok (.bipush (-9), 2) := by decide +kernel
theorem dX7_layWords_166 : decode cX7_layWords 166 = .ok (.if_icmp .ne 16, 3) := by decide +kernel
theorem dX7_layWords_169 : decode cX7_layWords 169 = .ok (.iload 7, 2) := by decide +kernel
theorem dX7_layWords_171 : decode cX7_layWords 171 = .ok (.ifCond .ne 7, 3) := by decide +kernel
theorem dX7_layWords_174 : decode cX7_layWords 174 = .ok (.iconst 1, 1) := by decide +kernel
theorem dX7_layWords_175 : decode cX7_layWords 175 = .ok (.goto 23, 3) := by decide +kernel
theorem dX7_layWords_178 : decode cX7_layWords 178 = .ok (.iconst 0, 1) := by decide +kernel
theorem dX7_layWords_179 : decode cX7_layWords 179 = .ok (.goto 19, 3) := by decide +kernel
theorem dX7_layWords_182 : decode cX7_layWords 182 = .ok (.iload 10, 2) := by decide +kernel
theorem dX7_layWords_184 : decode cX7_layWords 184 = .ok (.iload 9, 2) := by decide +kernel
theorem dX7_layWords_186 : decode cX7_layWords 186 = .ok (.isub, 1) := by decide +kernel
theorem dX7_layWords_187 : decode cX7_layWords 187 = .ok (.iconst 1, 1) := by decide +kernel
theorem dX7_layWords_188 : decode cX7_layWords 188 = .ok (.isub, 1) := by decide +kernel
theorem dX7_layWords_189 : decode cX7_layWords 189 = .ok (.iload_n 3, 1) := by decide +kernel
theorem dX7_layWords_190 : decode cX7_layWords 190 = .ok (.if_icmp .lt 7, 3) := by decide +kernel
theorem dX7_layWords_193 : decode cX7_layWords 193 = .ok (.iconst 1, 1) := by decide +kernel
theorem dX7_layWords_194 : decode cX7_layWords 194 = .ok (.goto 4, 3) := by decide +kernel
theorem dX7_layWords_197 : decode cX7_layWords 197 = .ok (.iconst 0, 1) := by decide +kernel
theorem dX7_layWords_198 : decode cX7_layWords 198 = .ok (.istore 14, 2) := by decide +kernel
theorem dX7_layWords_200 : decode cX7_layWords 200 = .ok (.aload_n 0, 1) := by decide +kernel
theorem dX7_layWords_201 : decode cX7_layWords 201 = .ok (.iload 14, 2) := by decide +kernel
theorem dX7_layWords_203 : decode cX7_layWords 203 = .ok (.invokevirtual 100, 3) := by decide +kernel
theorem dX7_layWords_206 : decode cX7_layWords 206 = .ok (.iconst 0, 1) := by decide +kernel
theorem dX7_layWords_207 : decode cX7_layWords 207 = .ok (.istore 7, 2) := by decide +kernel
theorem dX7_layWords_209 : decode cX7_layWords 209 = .ok (.aload_n 0, 1) := by decide +kernel
theorem dX7_layWords_210 : decode cX7_layWords 210 = .ok (.getfield 41, 3) := by decide +kernel
theorem dX7_layWords_213 : decode cX7_layWords 213 = .ok (.aload_n 0, 1) := by decide +kernel
theorem dX7_layWords_214 : decode cX7_layWords 214 = .ok (.getfield 94, 3) := by decide +kernel
theorem dX7_layWords_217 : decode cX7_layWords 217 = .ok (.iload 13, 2) := by decide +kernel
theorem dX7_layWords_219 : decode cX7_layWords 219 = .ok (.iastore, 1) := by decide +kernel
theorem dX7_layWords_220 : decode cX7_layWords 220 = .ok (.aload_n 0, 1) := by decide +kernel
theorem dX7_layWords_221 : decode cX7_layWords 221 = .ok (.dup, 1) := by decide +kernel
theorem dX7_layWords_222 : decode cX7_layWords 222 = .ok (.getfield 94, 3) := by decide +kernel
theorem dX7_layWords_225 : decode cX7_layWords 225 = .ok (.iconst 1, 1) := by decide +kernel
theorem dX7_layWords_226 : decode cX7_layWords 226 = .ok (.iadd, 1) := by decide +kernel
theorem dX7_layWords_227 : decode cX7_layWords 227 = .ok (.putfield 94, 3) := by decide +kernel
theorem dX7_layWords_230 : decode cX7_layWords 230 = .ok (.aload_n 0, 1) := by decide +kernel
theorem dX7_layWords_231 : decode cX7_layWords 231 = .ok (.getfield 35, 3) := by decide +kernel
theorem dX7_layWords_234 : decode cX7_layWords 234 = .ok (.bipush 9, 2) := by decide +kernel
theorem dX7_layWords_236 : decode cX7_layWords 236 = .ok (.iload 12, 2) := by decide +kernel
theorem dX7_layWords_238 : decode cX7_layWords 238 = .ok (.imul, 1) := by decide +kernel
theorem dX7_layWords_239 : decode cX7_layWords 239 = .ok (.iload 11, 2) := by decide +kernel
theorem dX7_layWords_241 : decode cX7_layWords 241 = .ok (.iadd, 1) := by decide +kernel
theorem dX7_layWords_242 : decode cX7_layWords 242 = .ok (.aload_n 0, 1) := by decide +kernel
theorem dX7_layWords_243 : decode cX7_layWords 243 = .ok (.getfield 91, 3) := by decide +kernel
theorem dX7_layWords_246 : decode cX7_layWords 246 = .ok (.iconst 1, 1) := by decide +kernel
theorem dX7_layWords_247 : decode cX7_layWords 247 = .ok (.isub, 1) := by decide +kernel
theorem dX7_layWords_248 : decode cX7_layWords 248 = .ok (.iastore, 1) := by decide +kernel
theorem dX7_layWords_249 : decode cX7_layWords 249 = .ok (.iload 10, 2) := by decide +kernel
theorem dX7_layWords_251 : decode cX7_layWords 251 = .ok (.istore 9, 2) := by decide +kernel
theorem dX7_layWords_253 : decode cX7_layWords 253 = .ok (.iinc 10 1, 3) := by decide +kernel
theorem dX7_layWords_256 : decode cX7_layWords 256 = .ok (.goto (-150), 3) := by decide +kernel
theorem dX7_layWords_259 : decode cX7_layWords 259 = .ok (.iload 9, 2) := by decide +kernel
theorem dX7_layWords_261 : decode cX7_layWords 261 = .ok (.bipush (-9), 2) := by decide +kernel
theorem dX7_layWords_263 : decode cX7_layWords 263 = .ok (.if_icmp .eq 32, 3) := by decide +kernel
theorem dX7_layWords_266 : decode cX7_layWords 266 = .ok (.aload_n 0, 1) := by decide +kernel
theorem dX7_layWords_267 : decode cX7_layWords 267 = .ok (.getfield 41, 3) := by decide +kernel
theorem dX7_layWords_270 : decode cX7_layWords 270 = .ok (.aload_n 0, 1) := by decide +kernel
theorem dX7_layWords_271 : decode cX7_layWords 271 = .ok (.getfield 94, 3) := by decide +kernel
theorem dX7_layWords_274 : decode cX7_layWords 274 = .ok (.iconst 1, 1) := by decide +kernel
theorem dX7_layWords_275 : decode cX7_layWords 275 = .ok (.isub, 1) := by decide +kernel
theorem dX7_layWords_276 : decode cX7_layWords 276 = .ok (.iaload, 1) := by decide +kernel
theorem dX7_layWords_277 : decode cX7_layWords 277 = .ok (.bipush 26, 2) := by decide +kernel
theorem dX7_layWords_279 : decode cX7_layWords 279 = .ok (.if_icmp .ne 16, 3) := by decide +kernel
theorem dX7_layWords_282 : decode cX7_layWords 282 = .ok (.aload_n 0, 1) := by decide +kernel
theorem dX7_layWords_283 : decode cX7_layWords 283 = .ok (.dup, 1) := by decide +kernel
theorem dX7_layWords_284 : decode cX7_layWords 284 = .ok (.getfield 94, 3) := by decide +kernel
theorem dX7_layWords_287 : decode cX7_layWords 287 = .ok (.iconst 1, 1) := by decide +kernel
theorem dX7_layWords_288 : decode cX7_layWords 288 = .ok (.isub, 1) := by decide +kernel
theorem dX7_layWords_289 : decode cX7_layWords 289 = .ok (.putfield 94, 3) := by decide +kernel
theorem dX7_layWords_292 : decode cX7_layWords 292 = .ok (.iconst 1, 1) := by decide +kernel
theorem dX7_layWords_293 : decode cX7_layWords 293 = .ok (.istore 7, 2) := by decide +kernel
theorem dX7_layWords_295 : decode cX7_layWords 295 = .ok (.iinc 8 1, 3) := by decide +kernel
theorem dX7_layWords_298 : decode cX7_layWords 298 = .ok (.goto (-206), 3) := by decide +kernel
theorem dX7_layWords_301 : decode cX7_layWords 301 = .ok (.iload 7, 2) := by decide +kernel
theorem dX7_layWords_303 : decode cX7_layWords 303 = .ok (.ifCond .eq 24, 3) := by decide +kernel
theorem dX7_layWords_306 : decode cX7_layWords 306 = .ok (.aload_n 0, 1) := by decide +kernel
theorem dX7_layWords_307 : decode cX7_layWords 307 = .ok (.getfield 41, 3) := by decide +kernel
theorem dX7_layWords_310 : decode cX7_layWords 310 = .ok (.aload_n 0, 1) := by decide +kernel
theorem dX7_layWords_311 : decode cX7_layWords 311 = .ok (.getfield 94, 3) := by decide +kernel
theorem dX7_layWords_314 : decode cX7_layWords 314 = .ok (.bipush 26, 2) := by decide +kernel
theorem dX7_layWords_316 : decode cX7_layWords 316 = .ok (.iastore, 1) := by decide +kernel
theorem dX7_layWords_317 : decode cX7_layWords 317 = .ok (.aload_n 0, 1) := by decide +kernel
theorem dX7_layWords_318 : decode cX7_layWords 318 = .ok (.dup, 1) := by decide +kernel
theorem dX7_layWords_319 : decode cX7_layWords 319 = .ok (.getfield 94, 3) := by decide +kernel
theorem dX7_layWords_322 : decode cX7_layWords 322 = .ok (.iconst 1, 1) := by decide +kernel
theorem dX7_layWords_323 : decode cX7_layWords 323 = .ok (.iadd, 1) := by decide +kernel
theorem dX7_layWords_324 : decode cX7_layWords 324 = .ok (.putfield 94, 3) := by decide +kernel
theorem dX7_layWords_327 : decode cX7_layWords 327 = .ok (.aload_n 0, 1) := by decide +kernel
theorem dX7_layWords_328 : decode cX7_layWords 328 = .ok (.getfield 38, 3) := by decide +kernel
theorem dX7_layWords_331 : decode cX7_layWords 331 = .ok (.aload_n 0, 1) := by decide +kernel
theorem dX7_layWords_332 : decode cX7_layWords 332 = .ok (.getfield 91, 3) := by decide +kernel
theorem dX7_layWords_335 : decode cX7_layWords 335 = .ok (.aload_n 0, 1) := by decide +kernel
theorem dX7_layWords_336 : decode cX7_layWords 336 = .ok (.getfield 94, 3) := by decide +kernel
theorem dX7_layWords_339 : decode cX7_layWords 339 = .ok (.iastore, 1) := by decide +kernel
theorem dX7_layWords_340 : decode cX7_layWords 340 = .ok (.aload_n 0, 1) := by decide +kernel
theorem dX7_layWords_341 : decode cX7_layWords 341 = .ok (.getfield 91, 3) := by decide +kernel
theorem dX7_layWords_344 : decode cX7_layWords 344 = .ok (.ireturn, 1) := by decide +kernel
def LX7_layWords_67 {ρ : Type} (T : zT) (x11 : Nat) (x12 : Nat) (x13 : Int32) (x14 : Int32) (x15 : Int32) (x16 : Int32) (x17 : Int32) (x18 : Int32) (K0 : zH → Option ρ) : Nat → Int32 → zH → Option ρ
  | 0, _, _ => none
  | k + 1, x19, h20 => if 81 ≤ x19 then (K0 h20) else ((zgr h20 x11 7 12).bind fun x21 => (zas T h20 x21 x19 (-9 : Int32)).bind fun h22 => LX7_layWords_67 T x11 x12 x13 x14 x15 x16 x17 x18 K0 k (x19 + 1) h22)
set_option maxHeartbeats 4000000 in
set_option maxRecDepth 100000 in
theorem LX7_layWords_67_ok {X : zX} (C : zC X cX7_layWords 15 RX7 "layWords" (some .int) 5 115) {Z : State → Prop} {al : Bool} {hi : Nat} {ρ : Type} {r9 : ρ} {x11 : Nat} {x12 : Nat} {x13 : Int32} {x14 : Int32} {x15 : Int32} {x16 : Int32} {x17 : Int32} {x18 : Int32} {K0 : zH → Option ρ} (hK0 : ∀ (g9 : zH), K0 g9 = some r9 → zW X 15 Z 0 0 al hi g9 89 [(0, .ref x11), (1, .ref x12), (2, .int x13), (3, .int x14), (4, .int x15), (5, .int x16), (6, .int x17), (7, .int x18)] []) : ∀ (k : Nat) (x19 : Int32) (h20 : zH), LX7_layWords_67 (xT X) x11 x12 x13 x14 x15 x16 x17 x18 K0 k x19 h20 = some r9 → zW X 15 Z 0 0 al hi h20 67 [(0, .ref x11), (1, .ref x12), (2, .int x13), (3, .int x14), (4, .int x15), (5, .int x16), (6, .int x17), (7, .int x18), (8, .int x19)] [] := by
  intro k
  induction k with
  | zero =>
    intro x19 h20 hf
    have hf : none = some r9 := hf
    cases hf
  | succ k ih =>
    intro x19 h20 hf
    rw [LX7_layWords_67.eq_2] at hf
    refine z_iload C dX7_layWords_67 8 rfl ?_
    refine z_bipush C (v := 81) dX7_layWords_69 (by decide) ?_
    refine z_icmp_ge (tgt := 89) C dX7_layWords_71 (by decide) hf (fun hf => ?_) (fun hf => ?_)
    · refine z_sub [0, 1, 2, 3, 4, 5, 6, 7] rfl ?_
      exact hK0 _ hf
    · refine z_aload_n C dX7_layWords_74 0 rfl rfl ?_
      refine z_getR C fl_X7_35 dX7_layWords_75 hf (fun x21 hf => ?_)
      refine z_iload C dX7_layWords_78 8 rfl ?_
      refine z_bipush C (v := (-9 : Int32)) dX7_layWords_80 (by decide) ?_
      refine z_iastore C dX7_layWords_82 hf (fun h22 hf => ?_)
      refine z_iinc C dX7_layWords_83 (k := 8) (d := 1) rfl (by decide) (by decide) (lv' := [(8, .int (x19 + 1)), (0, .ref x11), (1, .ref x12), (2, .int x13), (3, .int x14), (4, .int x15), (5, .int x16), (6, .int x17), (7, .int x18)]) rfl ?_
      refine z_goto (tgt := 67) C dX7_layWords_86 (by decide) ?_
      refine z_sub [1, 2, 3, 4, 5, 6, 7, 8, 0] rfl ?_
      exact ih _ _ hf
def LX7_layWords_106 {ρ : Type} (T : zT) (x34 : Nat) (x35 : Nat) (x36 : Int32) (x37 : Int32) (x38 : Int32) (x39 : Int32) (x40 : Int32) (x41 : Int32) (K0 : Int32 → Int32 → zH → Option ρ) : Nat → Int32 → Int32 → Int32 → zH → Option ρ
  | 0, _, _, _, _ => none
  | k + 1, x42, x43, x44, h45 => if x40 ≤ x44 then (K0 x42 x43 h45) else (zJ (fun (x46 : Int32) => zJ (fun (x48 : Int32) (x49 : Int32) => zJ (fun (x51 : Int32) (x52 : Int32) (h53 : zH) => LX7_layWords_106 T x34 x35 x36 x37 x38 x39 x40 x41 K0 k x51 x52 (x44 + 1) h53) (fun J54 => (FX7_cellAt T x48 x49 h45).bind fun x56 => (FX7_signIn T x35 x56 x36 h45).bind fun x58 => if x58 = (-9 : Int32) then (J54 x42 x43 h45) else (zJ (fun (x59 : Int32) => (FX7_beginWord T x34 x59 h45).bind fun h62 => (zgr h62 x34 7 14).bind fun x63 => (zgi h62 x34 7 16).bind fun x64 => (zas T h62 x63 x64 x58).bind fun h65 => (zgi h65 x34 7 16).bind fun x66 => (zpv h65 x34 7 16 (.int (x66 + 1))).bind fun h67 => (zgr h67 x34 7 12).bind fun x68 => (zgi h67 x34 7 15).bind fun x69 => (zas T h67 x68 ((9 * x49) + x48) (x69 - 1)).bind fun h70 => J54 0 x44 h70) (fun J60 => if x43 = (-9 : Int32) then (if x42 = 0 then (J60 1) else (J60 0)) else (if ((x44 - x43) - 1) < x37 then (J60 0) else (J60 1)))))) (fun J50 => if x38 = 0 then (J50 x46 x44) else (J50 x46 x41))) (fun J47 => if x38 = 0 then (J47 x41) else (J47 x44)))
set_option maxHeartbeats 4000000 in
set_option maxRecDepth 100000 in
theorem LX7_layWords_106_ok {X : zX} (C : zC X cX7_layWords 15 RX7 "layWords" (some .int) 5 115) {Z : State → Prop} {al : Bool} {hi : Nat} {ρ : Type} {r9 : ρ} {x34 : Nat} {x35 : Nat} {x36 : Int32} {x37 : Int32} {x38 : Int32} {x39 : Int32} {x40 : Int32} {x41 : Int32} {K0 : Int32 → Int32 → zH → Option ρ} (hK0 : ∀ (y7 : Int32) (y9 : Int32) (g9 : zH), K0 y7 y9 g9 = some r9 → zW X 15 Z 0 0 al hi g9 259 [(0, .ref x34), (1, .ref x35), (2, .int x36), (3, .int x37), (4, .int x38), (5, .int x39), (6, .int x40), (7, .int y7), (8, .int x41), (9, .int y9)] []) : ∀ (k : Nat) (x42 : Int32) (x43 : Int32) (x44 : Int32) (h45 : zH), LX7_layWords_106 (xT X) x34 x35 x36 x37 x38 x39 x40 x41 K0 k x42 x43 x44 h45 = some r9 → zW X 15 Z 0 0 al hi h45 106 [(0, .ref x34), (1, .ref x35), (2, .int x36), (3, .int x37), (4, .int x38), (5, .int x39), (6, .int x40), (7, .int x42), (8, .int x41), (9, .int x43), (10, .int x44)] [] := by
  intro k
  induction k with
  | zero =>
    intro x42 x43 x44 h45 hf
    have hf : none = some r9 := hf
    cases hf
  | succ k ih =>
    intro x42 x43 x44 h45 hf
    rw [LX7_layWords_106.eq_2] at hf
    refine z_iload C dX7_layWords_106 10 rfl ?_
    refine z_iload C dX7_layWords_108 6 rfl ?_
    refine z_icmp_ge (tgt := 259) C dX7_layWords_110 (by decide) hf (fun hf => ?_) (fun hf => ?_)
    · refine z_sub [0, 1, 2, 3, 4, 5, 6, 7, 8, 9] rfl ?_
      exact hK0 _ _ _ hf
    · refine z_join (P := fun J => ∀ (x46 : Int32), J x46 = some r9 → zW X 15 Z 0 0 al hi h45 125 [(0, .ref x34), (1, .ref x35), (2, .int x36), (3, .int x37), (4, .int x38), (5, .int x39), (6, .int x40), (7, .int x42), (8, .int x41), (9, .int x43), (10, .int x44)] [.int x46]) hf ?_ ?_
      · intro x46 hf
        refine z_join (P := fun J => ∀ (x48 : Int32) (x49 : Int32), J x48 x49 = some r9 → zW X 15 Z 0 0 al hi h45 139 [(0, .ref x34), (1, .ref x35), (2, .int x36), (3, .int x37), (4, .int x38), (5, .int x39), (6, .int x40), (7, .int x42), (8, .int x41), (9, .int x43), (10, .int x44), (11, .int x48)] [.int x49]) hf ?_ ?_
        · intro x48 x49 hf
          refine z_join (P := fun J => ∀ (x51 : Int32) (x52 : Int32) (h53 : zH), J x51 x52 h53 = some r9 → zW X 15 Z 0 0 al hi h53 253 [(0, .ref x34), (1, .ref x35), (2, .int x36), (3, .int x37), (4, .int x38), (5, .int x39), (6, .int x40), (7, .int x51), (8, .int x41), (9, .int x52), (10, .int x44)] []) hf ?_ ?_
          · intro x51 x52 h53 hf
            refine z_iinc C dX7_layWords_253 (k := 10) (d := 1) rfl (by decide) (by decide) (lv' := [(10, .int (x44 + 1)), (0, .ref x34), (1, .ref x35), (2, .int x36), (3, .int x37), (4, .int x38), (5, .int x39), (6, .int x40), (7, .int x51), (8, .int x41), (9, .int x52)]) rfl ?_
            refine z_goto (tgt := 106) C dX7_layWords_256 (by decide) ?_
            refine z_sub [1, 2, 3, 4, 5, 6, 7, 8, 9, 10, 0] rfl ?_
            exact ih _ _ _ _ hf
          · intro J54 kJ54 hf
            refine z_istore C dX7_layWords_139 (by decide) (lv' := [(12, .int x49), (0, .ref x34), (1, .ref x35), (2, .int x36), (3, .int x37), (4, .int x38), (5, .int x39), (6, .int x40), (7, .int x42), (8, .int x41), (9, .int x43), (10, .int x44), (11, .int x48)]) rfl ?_
            refine z_aload_n C dX7_layWords_141 2 rfl rfl ?_
            refine z_iload C dX7_layWords_142 12 rfl ?_
            refine z_iload C dX7_layWords_144 0 rfl ?_
            obtain ⟨x56, g55, hf⟩ := zbind hf
            refine z_callS (kc' := 0) (ks' := 0) C (MX7_cellAt (xl X) (xD X) (xT X) (xlo X) al hi g55) cw_X7_66 ys_X7_cellAt dX7_layWords_146 rfl (by decide) ⟨rfl, rfl⟩ (Nat.le_of_ble_eq_true rfl) (st := [.ref x35]) rfl ?_
            refine z_iload_n C dX7_layWords_149 3 rfl rfl ?_
            obtain ⟨x58, g57, hf⟩ := zbind hf
            refine z_callS (kc' := 0) (ks' := 0) C (MX7_signIn (xl X) (xD X) (xT X) (xlo X) al hi g57) cw_X7_97 ys_X7_signIn dX7_layWords_150 rfl (by decide) ⟨rfl, rfl⟩ (Nat.le_of_ble_eq_true rfl) (st := []) rfl ?_
            refine z_istore C dX7_layWords_153 (by decide) (lv' := [(13, .int x58), (12, .int x49), (0, .ref x34), (1, .ref x35), (2, .int x36), (3, .int x37), (4, .int x38), (5, .int x39), (6, .int x40), (7, .int x42), (8, .int x41), (9, .int x43), (10, .int x44), (11, .int x48)]) rfl ?_
            refine z_iload C dX7_layWords_155 0 rfl ?_
            refine z_bipush C (v := (-9 : Int32)) dX7_layWords_157 (by decide) ?_
            refine z_icmp_eq (tgt := 253) C dX7_layWords_159 (by decide) hf (fun hf => ?_) (fun hf => ?_)
            · refine z_sub [2, 3, 4, 5, 6, 7, 8, 9, 10, 11, 12] rfl ?_
              exact kJ54 _ _ _ hf
            · refine z_join (P := fun J => ∀ (x59 : Int32), J x59 = some r9 → zW X 15 Z 0 0 al hi h45 198 [(0, .ref x34), (1, .ref x35), (2, .int x36), (3, .int x37), (4, .int x38), (5, .int x39), (6, .int x40), (8, .int x41), (10, .int x44), (11, .int x48), (12, .int x49), (13, .int x58)] [.int x59]) hf ?_ ?_
              · intro x59 hf
                refine z_istore C dX7_layWords_198 (by decide) (lv' := [(14, .int x59), (0, .ref x34), (1, .ref x35), (2, .int x36), (3, .int x37), (4, .int x38), (5, .int x39), (6, .int x40), (8, .int x41), (10, .int x44), (11, .int x48), (12, .int x49), (13, .int x58)]) rfl ?_
                refine z_aload_n C dX7_layWords_200 1 rfl rfl ?_
                refine z_iload C dX7_layWords_201 0 rfl ?_
                obtain ⟨h62, g61, hf⟩ := zbind hf
                refine z_callV (kc' := 0) (ks' := 0) C (MX7_beginWord (xl X) (xD X) (xT X) (xlo X) al hi g61) (OX7_beginWord g61) rfl cw_X7_100 yv_X7_beginWord dX7_layWords_203 rfl (by decide) ⟨rfl, rfl⟩ (Nat.le_of_ble_eq_true rfl) (st := []) rfl ?_
                refine z_iconst C (v := 0) dX7_layWords_206 (by decide) ?_
                refine z_istore C dX7_layWords_207 (by decide) (lv' := [(7, .int 0), (14, .int x59), (0, .ref x34), (1, .ref x35), (2, .int x36), (3, .int x37), (4, .int x38), (5, .int x39), (6, .int x40), (8, .int x41), (10, .int x44), (11, .int x48), (12, .int x49), (13, .int x58)]) rfl ?_
                refine z_aload_n C dX7_layWords_209 2 rfl rfl ?_
                refine z_getR C fl_X7_41 dX7_layWords_210 hf (fun x63 hf => ?_)
                refine z_aload_n C dX7_layWords_213 2 rfl rfl ?_
                refine z_getI C fl_X7_94 dX7_layWords_214 hf (fun x64 hf => ?_)
                refine z_iload C dX7_layWords_217 13 rfl ?_
                refine z_iastore C dX7_layWords_219 hf (fun h65 hf => ?_)
                refine z_aload_n C dX7_layWords_220 2 rfl rfl ?_
                refine z_dup C dX7_layWords_221 rfl ?_
                refine z_getI C fl_X7_94 dX7_layWords_222 hf (fun x66 hf => ?_)
                refine z_iconst C (v := 1) dX7_layWords_225 (by decide) ?_
                refine z_iadd C dX7_layWords_226 ?_
                refine z_put C fl_X7_94 dX7_layWords_227 rfl rfl hf (fun h67 hf => ?_)
                refine z_aload_n C dX7_layWords_230 2 rfl rfl ?_
                refine z_getR C fl_X7_35 dX7_layWords_231 hf (fun x68 hf => ?_)
                refine z_bipush C (v := 9) dX7_layWords_234 (by decide) ?_
                refine z_iload C dX7_layWords_236 12 rfl ?_
                refine z_imul C dX7_layWords_238 ?_
                refine z_iload C dX7_layWords_239 11 rfl ?_
                refine z_iadd C dX7_layWords_241 ?_
                refine z_aload_n C dX7_layWords_242 2 rfl rfl ?_
                refine z_getI C fl_X7_91 dX7_layWords_243 hf (fun x69 hf => ?_)
                refine z_iconst C (v := 1) dX7_layWords_246 (by decide) ?_
                refine z_isub C dX7_layWords_247 ?_
                refine z_iastore C dX7_layWords_248 hf (fun h70 hf => ?_)
                refine z_iload C dX7_layWords_249 10 rfl ?_
                refine z_istore C dX7_layWords_251 (by decide) (lv' := [(9, .int x44), (7, .int 0), (14, .int x59), (0, .ref x34), (1, .ref x35), (2, .int x36), (3, .int x37), (4, .int x38), (5, .int x39), (6, .int x40), (8, .int x41), (10, .int x44), (11, .int x48), (12, .int x49), (13, .int x58)]) rfl ?_
                refine z_sub [3, 4, 5, 6, 7, 8, 9, 1, 10, 0, 11] rfl ?_
                exact kJ54 _ _ _ hf
              · intro J60 kJ60 hf
                refine z_iload C dX7_layWords_162 11 rfl ?_
                refine z_bipush C (v := (-9 : Int32)) dX7_layWords_164 (by decide) ?_
                refine z_icmp_ne (tgt := 182) C dX7_layWords_166 (by decide) hf (fun hf => ?_) (fun hf => ?_)
                · refine z_iload C dX7_layWords_182 12 rfl ?_
                  refine z_iload C dX7_layWords_184 11 rfl ?_
                  refine z_isub C dX7_layWords_186 ?_
                  refine z_iconst C (v := 1) dX7_layWords_187 (by decide) ?_
                  refine z_isub C dX7_layWords_188 ?_
                  refine z_iload_n C dX7_layWords_189 5 rfl rfl ?_
                  refine z_icmp_lt (tgt := 197) C dX7_layWords_190 (by decide) hf (fun hf => ?_) (fun hf => ?_)
                  · refine z_iconst C (v := 0) dX7_layWords_197 (by decide) ?_
                    refine z_sub [2, 3, 4, 5, 6, 7, 8, 10, 12, 13, 1, 0] rfl ?_
                    exact kJ60 _ hf
                  · refine z_iconst C (v := 1) dX7_layWords_193 (by decide) ?_
                    refine z_goto (tgt := 198) C dX7_layWords_194 (by decide) ?_
                    refine z_sub [2, 3, 4, 5, 6, 7, 8, 10, 12, 13, 1, 0] rfl ?_
                    exact kJ60 _ hf
                · refine z_iload C dX7_layWords_169 9 rfl ?_
                  refine z_if_ne (tgt := 178) C dX7_layWords_171 (by decide) hf (fun hf => ?_) (fun hf => ?_)
                  · refine z_iconst C (v := 0) dX7_layWords_178 (by decide) ?_
                    refine z_goto (tgt := 198) C dX7_layWords_179 (by decide) ?_
                    refine z_sub [2, 3, 4, 5, 6, 7, 8, 10, 12, 13, 1, 0] rfl ?_
                    exact kJ60 _ hf
                  · refine z_iconst C (v := 1) dX7_layWords_174 (by decide) ?_
                    refine z_goto (tgt := 198) C dX7_layWords_175 (by decide) ?_
                    refine z_sub [2, 3, 4, 5, 6, 7, 8, 10, 12, 13, 1, 0] rfl ?_
                    exact kJ60 _ hf
        · intro J50 kJ50 hf
          refine z_istore C dX7_layWords_125 (by decide) (lv' := [(11, .int x46), (0, .ref x34), (1, .ref x35), (2, .int x36), (3, .int x37), (4, .int x38), (5, .int x39), (6, .int x40), (7, .int x42), (8, .int x41), (9, .int x43), (10, .int x44)]) rfl ?_
          refine z_iload C dX7_layWords_127 5 rfl ?_
          refine z_if_eq (tgt := 137) C dX7_layWords_129 (by decide) hf (fun hf => ?_) (fun hf => ?_)
          · refine z_iload C dX7_layWords_137 11 rfl ?_
            refine z_sub [1, 2, 3, 4, 5, 6, 7, 8, 9, 10, 11, 0] rfl ?_
            exact kJ50 _ _ hf
          · refine z_iload C dX7_layWords_132 9 rfl ?_
            refine z_goto (tgt := 139) C dX7_layWords_134 (by decide) ?_
            refine z_sub [1, 2, 3, 4, 5, 6, 7, 8, 9, 10, 11, 0] rfl ?_
            exact kJ50 _ _ hf
      · intro J47 kJ47 hf
        refine z_iload C dX7_layWords_113 4 rfl ?_
        refine z_if_eq (tgt := 123) C dX7_layWords_115 (by decide) hf (fun hf => ?_) (fun hf => ?_)
        · refine z_iload C dX7_layWords_123 8 rfl ?_
          exact kJ47 _ hf
        · refine z_iload C dX7_layWords_118 10 rfl ?_
          refine z_goto (tgt := 125) C dX7_layWords_120 (by decide) ?_
          exact kJ47 _ hf
def LX7_layWords_92 {ρ : Type} (T : zT) (x24 : Nat) (x25 : Nat) (x26 : Int32) (x27 : Int32) (x28 : Int32) (x29 : Int32) (x30 : Int32) (K0 : Int32 → zH → Option ρ) : Nat → Int32 → Int32 → zH → Option ρ
  | 0, _, _, _ => none
  | k + 1, x31, x32, h33 => if x29 ≤ x32 then (K0 x31 h33) else (LX7_layWords_106 T x24 x25 x26 x27 x28 x29 x30 x32 (fun (x71 : Int32) (x72 : Int32) (h73 : zH) => zJ (fun (x74 : Int32) (h75 : zH) => LX7_layWords_92 T x24 x25 x26 x27 x28 x29 x30 K0 k x74 (x32 + 1) h75) (fun J76 => if x72 = (-9 : Int32) then (J76 x71 h73) else ((zgr h73 x24 7 14).bind fun x77 => (zgi h73 x24 7 16).bind fun x78 => (zai T h73 x77 (x78 - 1)).bind fun x79 => if x79 = 26 then ((zgi h73 x24 7 16).bind fun x80 => (zpv h73 x24 7 16 (.int (x80 - 1))).bind fun h81 => J76 1 h81) else (J76 x71 h73)))) FUEL x31 (-9 : Int32) 0 h33)
set_option maxHeartbeats 4000000 in
set_option maxRecDepth 100000 in
theorem LX7_layWords_92_ok {X : zX} (C : zC X cX7_layWords 15 RX7 "layWords" (some .int) 5 115) {Z : State → Prop} {al : Bool} {hi : Nat} {ρ : Type} {r9 : ρ} {x24 : Nat} {x25 : Nat} {x26 : Int32} {x27 : Int32} {x28 : Int32} {x29 : Int32} {x30 : Int32} {K0 : Int32 → zH → Option ρ} (hK0 : ∀ (y7 : Int32) (g9 : zH), K0 y7 g9 = some r9 → zW X 15 Z 0 0 al hi g9 301 [(0, .ref x24), (7, .int y7)] []) : ∀ (k : Nat) (x31 : Int32) (x32 : Int32) (h33 : zH), LX7_layWords_92 (xT X) x24 x25 x26 x27 x28 x29 x30 K0 k x31 x32 h33 = some r9 → zW X 15 Z 0 0 al hi h33 92 [(0, .ref x24), (1, .ref x25), (2, .int x26), (3, .int x27), (4, .int x28), (5, .int x29), (6, .int x30), (7, .int x31), (8, .int x32)] [] := by
  intro k
  induction k with
  | zero =>
    intro x31 x32 h33 hf
    have hf : none = some r9 := hf
    cases hf
  | succ k ih =>
    intro x31 x32 h33 hf
    rw [LX7_layWords_92.eq_2] at hf
    refine z_iload C dX7_layWords_92 8 rfl ?_
    refine z_iload C dX7_layWords_94 5 rfl ?_
    refine z_icmp_ge (tgt := 301) C dX7_layWords_96 (by decide) hf (fun hf => ?_) (fun hf => ?_)
    · refine z_sub [0, 7] rfl ?_
      exact hK0 _ _ hf
    · refine z_bipush C (v := (-9 : Int32)) dX7_layWords_99 (by decide) ?_
      refine z_istore C dX7_layWords_101 (by decide) (lv' := [(9, .int (-9 : Int32)), (0, .ref x24), (1, .ref x25), (2, .int x26), (3, .int x27), (4, .int x28), (5, .int x29), (6, .int x30), (7, .int x31), (8, .int x32)]) rfl ?_
      refine z_iconst C (v := 0) dX7_layWords_103 (by decide) ?_
      refine z_istore C dX7_layWords_104 (by decide) (lv' := [(10, .int 0), (9, .int (-9 : Int32)), (0, .ref x24), (1, .ref x25), (2, .int x26), (3, .int x27), (4, .int x28), (5, .int x29), (6, .int x30), (7, .int x31), (8, .int x32)]) rfl ?_
      refine z_sub [2, 3, 4, 5, 6, 7, 8, 9, 10, 1, 0] rfl ?_
      refine LX7_layWords_106_ok C ?_ FUEL _ _ _ _ hf
      · intro x71 x72 h73 hf
        refine z_join (P := fun J => ∀ (x74 : Int32) (h75 : zH), J x74 h75 = some r9 → zW X 15 Z 0 0 al hi h75 295 [(0, .ref x24), (1, .ref x25), (2, .int x26), (3, .int x27), (4, .int x28), (5, .int x29), (6, .int x30), (7, .int x74), (8, .int x32)] []) hf ?_ ?_
        · intro x74 h75 hf
          refine z_iinc C dX7_layWords_295 (k := 8) (d := 1) rfl (by decide) (by decide) (lv' := [(8, .int (x32 + 1)), (0, .ref x24), (1, .ref x25), (2, .int x26), (3, .int x27), (4, .int x28), (5, .int x29), (6, .int x30), (7, .int x74)]) rfl ?_
          refine z_goto (tgt := 92) C dX7_layWords_298 (by decide) ?_
          refine z_sub [1, 2, 3, 4, 5, 6, 7, 8, 0] rfl ?_
          exact ih _ _ _ hf
        · intro J76 kJ76 hf
          refine z_iload C dX7_layWords_259 9 rfl ?_
          refine z_bipush C (v := (-9 : Int32)) dX7_layWords_261 (by decide) ?_
          refine z_icmp_eq (tgt := 295) C dX7_layWords_263 (by decide) hf (fun hf => ?_) (fun hf => ?_)
          · refine z_sub [0, 1, 2, 3, 4, 5, 6, 7, 8] rfl ?_
            exact kJ76 _ _ hf
          · refine z_aload_n C dX7_layWords_266 0 rfl rfl ?_
            refine z_getR C fl_X7_41 dX7_layWords_267 hf (fun x77 hf => ?_)
            refine z_aload_n C dX7_layWords_270 0 rfl rfl ?_
            refine z_getI C fl_X7_94 dX7_layWords_271 hf (fun x78 hf => ?_)
            refine z_iconst C (v := 1) dX7_layWords_274 (by decide) ?_
            refine z_isub C dX7_layWords_275 ?_
            refine z_iaload C dX7_layWords_276 hf (fun x79 hf => ?_)
            refine z_bipush C (v := 26) dX7_layWords_277 (by decide) ?_
            refine z_icmp_ne (tgt := 295) C dX7_layWords_279 (by decide) hf (fun hf => ?_) (fun hf => ?_)
            · refine z_sub [0, 1, 2, 3, 4, 5, 6, 7, 8] rfl ?_
              exact kJ76 _ _ hf
            · refine z_aload_n C dX7_layWords_282 0 rfl rfl ?_
              refine z_dup C dX7_layWords_283 rfl ?_
              refine z_getI C fl_X7_94 dX7_layWords_284 hf (fun x80 hf => ?_)
              refine z_iconst C (v := 1) dX7_layWords_287 (by decide) ?_
              refine z_isub C dX7_layWords_288 ?_
              refine z_put C fl_X7_94 dX7_layWords_289 rfl rfl hf (fun h81 hf => ?_)
              refine z_iconst C (v := 1) dX7_layWords_292 (by decide) ?_
              refine z_istore C dX7_layWords_293 (by decide) (lv' := [(7, .int 1), (0, .ref x24), (1, .ref x25), (2, .int x26), (3, .int x27), (4, .int x28), (5, .int x29), (6, .int x30), (8, .int x32), (9, .int x72)]) rfl ?_
              refine z_sub [1, 2, 3, 4, 5, 6, 7, 0, 8] rfl ?_
              exact kJ76 _ _ hf
def FX7_layWords (T : zT) (a0 : Nat) (p0 : Nat) (p1 : Int32) (p2 : Int32) (h : zH) : Option (Int32 × zH) := (zo h a0 7).bind fun _ => zJ (fun (x1 : Int32) => zJ (fun (x3 : Int32) (x4 : Int32) => zJ (fun (x6 : Int32) (x7 : Int32) => (zpv h a0 7 15 (.int 0)).bind fun h9 => (zpv h9 a0 7 16 (.int 0)).bind fun h10 => LX7_layWords_67 T a0 p0 p1 p2 x3 x6 x7 0 (fun (h23 : zH) => LX7_layWords_92 T a0 p0 p1 p2 x3 x6 x7 (fun (x82 : Int32) (h83 : zH) => zJ (fun (h84 : zH) => (zgr h84 a0 7 13).bind fun x86 => (zgi h84 a0 7 15).bind fun x87 => (zgi h84 a0 7 16).bind fun x88 => (zas T h84 x86 x87 x88).bind fun h89 => (zgi h89 a0 7 15).bind fun x90 => some (x90, h89)) (fun J85 => if x82 = 0 then (J85 h83) else ((zgr h83 a0 7 14).bind fun x91 => (zgi h83 a0 7 16).bind fun x92 => (zas T h83 x91 x92 26).bind fun h93 => (zgi h93 a0 7 16).bind fun x94 => (zpv h93 a0 7 16 (.int (x94 + 1))).bind fun h95 => J85 h95))) FUEL 0 0 h23) FUEL 0 h10) (fun J8 => if x3 = 0 then ((zai T h p0 1).bind fun x96 => J8 x4 x96) else ((zai T h p0 0).bind fun x97 => J8 x4 x97))) (fun J5 => if x1 = 0 then ((zai T h p0 0).bind fun x98 => J5 x1 x98) else ((zai T h p0 1).bind fun x99 => J5 x1 x99))) (fun J2 => (zai T h p0 ((4 + (3 * p1)) + 2)).bind fun x100 => if x100 = 0 then (J2 1) else (J2 0))
set_option maxHeartbeats 4000000 in
set_option maxRecDepth 100000 in
theorem BX7_layWords {X : zX} (C : zC X cX7_layWords 15 RX7 "layWords" (some .int) 5 115) {al : Bool} {hi : Nat} {h : zH} {a0 : Nat} {p0 : Nat} {p1 : Int32} {p2 : Int32} {r9 : (Int32 × zH)} (hf : FX7_layWords (xT X) a0 p0 p1 p2 h = some r9) : zW X 15 (zZ X al (some (.int r9.1), hi, r9.2)) 0 0 al hi h 0 [(0, .ref a0), (1, .ref p0), (2, .int p1), (3, .int p2)] [] := by
  unfold FX7_layWords at hf
  obtain ⟨_, _, hf⟩ := zbind hf
  refine z_join (P := fun J => ∀ (x1 : Int32), J x1 = some r9 → zW X 15 (zZ X al (some (.int r9.1), hi, r9.2)) 0 0 al hi h 17 [(0, .ref a0), (1, .ref p0), (2, .int p1), (3, .int p2)] [.int x1]) hf ?_ ?_
  · intro x1 hf
    refine z_join (P := fun J => ∀ (x3 : Int32) (x4 : Int32), J x3 x4 = some r9 → zW X 15 (zZ X al (some (.int r9.1), hi, r9.2)) 0 0 al hi h 33 [(0, .ref a0), (1, .ref p0), (2, .int p1), (3, .int p2), (4, .int x3)] [.int x4]) hf ?_ ?_
    · intro x3 x4 hf
      refine z_join (P := fun J => ∀ (x6 : Int32) (x7 : Int32), J x6 x7 = some r9 → zW X 15 (zZ X al (some (.int r9.1), hi, r9.2)) 0 0 al hi h 49 [(0, .ref a0), (1, .ref p0), (2, .int p1), (3, .int p2), (4, .int x3), (5, .int x6)] [.int x7]) hf ?_ ?_
      · intro x6 x7 hf
        refine z_istore C dX7_layWords_49 (by decide) (lv' := [(6, .int x7), (0, .ref a0), (1, .ref p0), (2, .int p1), (3, .int p2), (4, .int x3), (5, .int x6)]) rfl ?_
        refine z_iconst C (v := 0) dX7_layWords_51 (by decide) ?_
        refine z_istore C dX7_layWords_52 (by decide) (lv' := [(7, .int 0), (6, .int x7), (0, .ref a0), (1, .ref p0), (2, .int p1), (3, .int p2), (4, .int x3), (5, .int x6)]) rfl ?_
        refine z_aload_n C dX7_layWords_54 2 rfl rfl ?_
        refine z_iconst C (v := 0) dX7_layWords_55 (by decide) ?_
        refine z_put C fl_X7_91 dX7_layWords_56 rfl rfl hf (fun h9 hf => ?_)
        refine z_aload_n C dX7_layWords_59 2 rfl rfl ?_
        refine z_iconst C (v := 0) dX7_layWords_60 (by decide) ?_
        refine z_put C fl_X7_94 dX7_layWords_61 rfl rfl hf (fun h10 hf => ?_)
        refine z_iconst C (v := 0) dX7_layWords_64 (by decide) ?_
        refine z_istore C dX7_layWords_65 (by decide) (lv' := [(8, .int 0), (7, .int 0), (6, .int x7), (0, .ref a0), (1, .ref p0), (2, .int p1), (3, .int p2), (4, .int x3), (5, .int x6)]) rfl ?_
        refine z_sub [3, 4, 5, 6, 7, 8, 2, 1, 0] rfl ?_
        refine LX7_layWords_67_ok C ?_ FUEL _ _ hf
        · intro h23 hf
          refine z_iconst C (v := 0) dX7_layWords_89 (by decide) ?_
          refine z_istore C dX7_layWords_90 (by decide) (lv' := [(8, .int 0), (0, .ref a0), (1, .ref p0), (2, .int p1), (3, .int p2), (4, .int x3), (5, .int x6), (6, .int x7), (7, .int 0)]) rfl ?_
          refine z_sub [1, 2, 3, 4, 5, 6, 7, 8, 0] rfl ?_
          refine LX7_layWords_92_ok C ?_ FUEL _ _ _ hf
          · intro x82 h83 hf
            refine z_join (P := fun J => ∀ (h84 : zH), J h84 = some r9 → zW X 15 (zZ X al (some (.int r9.1), hi, r9.2)) 0 0 al hi h84 327 [(0, .ref a0)] []) hf ?_ ?_
            · intro h84 hf
              refine z_aload_n C dX7_layWords_327 0 rfl rfl ?_
              refine z_getR C fl_X7_38 dX7_layWords_328 hf (fun x86 hf => ?_)
              refine z_aload_n C dX7_layWords_331 0 rfl rfl ?_
              refine z_getI C fl_X7_91 dX7_layWords_332 hf (fun x87 hf => ?_)
              refine z_aload_n C dX7_layWords_335 0 rfl rfl ?_
              refine z_getI C fl_X7_94 dX7_layWords_336 hf (fun x88 hf => ?_)
              refine z_iastore C dX7_layWords_339 hf (fun h89 hf => ?_)
              refine z_aload_n C dX7_layWords_340 0 rfl rfl ?_
              refine z_getI C fl_X7_91 dX7_layWords_341 hf (fun x90 hf => ?_)
              exact z_ireturn C dX7_layWords_344 (by cases hf; rfl)
            · intro J85 kJ85 hf
              refine z_iload C dX7_layWords_301 1 rfl ?_
              refine z_if_eq (tgt := 327) C dX7_layWords_303 (by decide) hf (fun hf => ?_) (fun hf => ?_)
              · refine z_sub [0] rfl ?_
                exact kJ85 _ hf
              · refine z_aload_n C dX7_layWords_306 0 rfl rfl ?_
                refine z_getR C fl_X7_41 dX7_layWords_307 hf (fun x91 hf => ?_)
                refine z_aload_n C dX7_layWords_310 0 rfl rfl ?_
                refine z_getI C fl_X7_94 dX7_layWords_311 hf (fun x92 hf => ?_)
                refine z_bipush C (v := 26) dX7_layWords_314 (by decide) ?_
                refine z_iastore C dX7_layWords_316 hf (fun h93 hf => ?_)
                refine z_aload_n C dX7_layWords_317 0 rfl rfl ?_
                refine z_dup C dX7_layWords_318 rfl ?_
                refine z_getI C fl_X7_94 dX7_layWords_319 hf (fun x94 hf => ?_)
                refine z_iconst C (v := 1) dX7_layWords_322 (by decide) ?_
                refine z_iadd C dX7_layWords_323 ?_
                refine z_put C fl_X7_94 dX7_layWords_324 rfl rfl hf (fun h95 hf => ?_)
                refine z_sub [0] rfl ?_
                exact kJ85 _ hf
      · intro J8 kJ8 hf
        refine z_istore C dX7_layWords_33 (by decide) (lv' := [(5, .int x4), (0, .ref a0), (1, .ref p0), (2, .int p1), (3, .int p2), (4, .int x3)]) rfl ?_
        refine z_iload C dX7_layWords_35 5 rfl ?_
        refine z_if_eq (tgt := 46) C dX7_layWords_37 (by decide) hf (fun hf => ?_) (fun hf => ?_)
        · refine z_aload_n C dX7_layWords_46 2 rfl rfl ?_
          refine z_iconst C (v := 1) dX7_layWords_47 (by decide) ?_
          refine z_iaload C dX7_layWords_48 hf (fun x96 hf => ?_)
          refine z_sub [1, 2, 3, 4, 5, 0] rfl ?_
          exact kJ8 _ _ hf
        · refine z_aload_n C dX7_layWords_40 2 rfl rfl ?_
          refine z_iconst C (v := 0) dX7_layWords_41 (by decide) ?_
          refine z_iaload C dX7_layWords_42 hf (fun x97 hf => ?_)
          refine z_goto (tgt := 49) C dX7_layWords_43 (by decide) ?_
          refine z_sub [1, 2, 3, 4, 5, 0] rfl ?_
          exact kJ8 _ _ hf
    · intro J5 kJ5 hf
      refine z_istore C dX7_layWords_17 (by decide) (lv' := [(4, .int x1), (0, .ref a0), (1, .ref p0), (2, .int p1), (3, .int p2)]) rfl ?_
      refine z_iload C dX7_layWords_19 0 rfl ?_
      refine z_if_eq (tgt := 30) C dX7_layWords_21 (by decide) hf (fun hf => ?_) (fun hf => ?_)
      · refine z_aload_n C dX7_layWords_30 2 rfl rfl ?_
        refine z_iconst C (v := 0) dX7_layWords_31 (by decide) ?_
        refine z_iaload C dX7_layWords_32 hf (fun x98 hf => ?_)
        refine z_sub [1, 2, 3, 4, 0] rfl ?_
        exact kJ5 _ _ hf
      · refine z_aload_n C dX7_layWords_24 2 rfl rfl ?_
        refine z_iconst C (v := 1) dX7_layWords_25 (by decide) ?_
        refine z_iaload C dX7_layWords_26 hf (fun x99 hf => ?_)
        refine z_goto (tgt := 33) C dX7_layWords_27 (by decide) ?_
        refine z_sub [1, 2, 3, 4, 0] rfl ?_
        exact kJ5 _ _ hf
  · intro J2 kJ2 hf
    refine z_aload_n C dX7_layWords_0 1 rfl rfl ?_
    refine z_iconst C (v := 4) dX7_layWords_1 (by decide) ?_
    refine z_iconst C (v := 3) dX7_layWords_2 (by decide) ?_
    refine z_iload_n C dX7_layWords_3 2 rfl rfl ?_
    refine z_imul C dX7_layWords_4 ?_
    refine z_iadd C dX7_layWords_5 ?_
    refine z_iconst C (v := 2) dX7_layWords_6 (by decide) ?_
    refine z_iadd C dX7_layWords_7 ?_
    refine z_iaload C dX7_layWords_8 hf (fun x100 hf => ?_)
    refine z_if_ne (tgt := 16) C dX7_layWords_9 (by decide) hf (fun hf => ?_) (fun hf => ?_)
    · refine z_iconst C (v := 0) dX7_layWords_16 (by decide) ?_
      exact kJ2 _ hf
    · refine z_iconst C (v := 1) dX7_layWords_12 (by decide) ?_
      refine z_goto (tgt := 17) C dX7_layWords_13 (by decide) ?_
      exact kJ2 _ hf
theorem MX7_layWords (l : Launch) (D : va_G) (T : zT) (lo : Nat) (al : Bool) (hi : Nat) {h : zH} {a0 : Nat} {p0 : Nat} {p1 : Int32} {p2 : Int32} {v9 : Int32} {h9 : zH} (hf : FX7_layWords T a0 p0 p1 p2 h = some (v9, h9)) : zM l yX7_layWords (.code yX7_layWords cX7_layWords 15 (some .int) :: TW) ({ frames := 5, cells := 0, slots := 0, locals := 115 } : Room) D T lo al [.ref a0, .ref p0, .int p1, .int p2] hi h (some (.int v9), hi, h9) :=
  z_enter (own := RX7) (nm := "layWords") (lv := [(0, .ref a0), (1, .ref p0), (2, .int p1), (3, .int p2)]) (by decide +kernel) rfl rfl (Nat.le_of_ble_eq_true rfl) rfl (fun _ _ _ _ _ _ _ _ C => BX7_layWords C hf)
theorem OX7_layWords {T : zT} {h : zH} {a0 : Nat} {p0 : Nat} {p1 : Int32} {p2 : Int32} {r9 : (Int32 × zH)} (hf : FX7_layWords T a0 p0 p1 p2 h = some r9) : ∃ fs, h a0 = some (.inr (7, fs)) := by
  obtain ⟨_, h1, _⟩ := zbind hf
  exact zo_obj h1
theorem dX7_layNow_0 : decode cX7_layNow 0 = .ok (.aload_n 0, 1) := by decide +kernel
theorem dX7_layNow_1 : decode cX7_layNow 1 = .ok (.aload_n 0, 1) := by decide +kernel
theorem dX7_layNow_2 : decode cX7_layNow 2 = .ok (.getfield 16, 3) := by decide +kernel
theorem dX7_layNow_5 : decode cX7_layNow 5 = .ok (.iload_n 1, 1) := by decide +kernel
theorem dX7_layNow_6 : decode cX7_layNow 6 = .ok (.aload_n 0, 1) := by decide +kernel
theorem dX7_layNow_7 : decode cX7_layNow 7 = .ok (.getfield 16, 3) := by decide +kernel
theorem dX7_layNow_10 : decode cX7_layNow 10 = .ok (.iconst 3, 1) := by decide +kernel
theorem dX7_layNow_11 : decode cX7_layNow 11 = .ok (.iaload, 1) := by decide +kernel
theorem dX7_layNow_12 : decode cX7_layNow 12 = .ok (.invokevirtual 104, 3) := by decide +kernel
theorem dX7_layNow_15 : decode cX7_layNow 15 = .ok (.ireturn, 1) := by decide +kernel
def FX7_layNow (T : zT) (a0 : Nat) (p0 : Int32) (h : zH) : Option (Int32 × zH) := (zo h a0 7).bind fun _ => (zgr h a0 7 5).bind fun x1 => (zgr h a0 7 5).bind fun x2 => (zai T h x2 3).bind fun x3 => zb2 (FX7_layWords T a0 x1 p0 x3 h) fun x5 h6 => some (x5, h6)
set_option maxHeartbeats 4000000 in
set_option maxRecDepth 100000 in
theorem BX7_layNow {X : zX} (C : zC X cX7_layNow 2 RX7 "layNow" (some .int) 6 149) {al : Bool} {hi : Nat} {h : zH} {a0 : Nat} {p0 : Int32} {r9 : (Int32 × zH)} (hf : FX7_layNow (xT X) a0 p0 h = some r9) : zW X 2 (zZ X al (some (.int r9.1), hi, r9.2)) 0 0 al hi h 0 [(0, .ref a0), (1, .int p0)] [] := by
  unfold FX7_layNow at hf
  obtain ⟨_, _, hf⟩ := zbind hf
  refine z_aload_n C dX7_layNow_0 0 rfl rfl ?_
  refine z_aload_n C dX7_layNow_1 0 rfl rfl ?_
  refine z_getR C fl_X7_16 dX7_layNow_2 hf (fun x1 hf => ?_)
  refine z_iload_n C dX7_layNow_5 1 rfl rfl ?_
  refine z_aload_n C dX7_layNow_6 0 rfl rfl ?_
  refine z_getR C fl_X7_16 dX7_layNow_7 hf (fun x2 hf => ?_)
  refine z_iconst C (v := 3) dX7_layNow_10 (by decide) ?_
  refine z_iaload C dX7_layNow_11 hf (fun x3 hf => ?_)
  obtain ⟨x5, h6, g4, hf⟩ := zbind2 hf
  refine z_callV (kc' := 0) (ks' := 0) C (MX7_layWords (xl X) (xD X) (xT X) (xlo X) al hi g4) (OX7_layWords g4) rfl cw_X7_104 yv_X7_layWords dX7_layNow_12 rfl (by decide) ⟨rfl, rfl⟩ (Nat.le_of_ble_eq_true rfl) (st := []) rfl ?_
  exact z_ireturn C dX7_layNow_15 (by cases hf; rfl)
theorem MX7_layNow (l : Launch) (D : va_G) (T : zT) (lo : Nat) (al : Bool) (hi : Nat) {h : zH} {a0 : Nat} {p0 : Int32} {v9 : Int32} {h9 : zH} (hf : FX7_layNow T a0 p0 h = some (v9, h9)) : zM l yX7_layNow (.code yX7_layNow cX7_layNow 2 (some .int) :: TW) ({ frames := 6, cells := 0, slots := 0, locals := 149 } : Room) D T lo al [.ref a0, .int p0] hi h (some (.int v9), hi, h9) :=
  z_enter (own := RX7) (nm := "layNow") (lv := [(0, .ref a0), (1, .int p0)]) (by decide +kernel) rfl rfl (Nat.le_of_ble_eq_true rfl) rfl (fun _ _ _ _ _ _ _ _ C => BX7_layNow C hf)
theorem OX7_layNow {T : zT} {h : zH} {a0 : Nat} {p0 : Int32} {r9 : (Int32 × zH)} (hf : FX7_layNow T a0 p0 h = some r9) : ∃ fs, h a0 = some (.inr (7, fs)) := by
  obtain ⟨_, h1, _⟩ := zbind hf
  exact zo_obj h1
theorem dX7_allWords_0 : decode cX7_allWords 0 = .ok (.aload_n 0, 1) := by decide +kernel
theorem dX7_allWords_1 : decode cX7_allWords 1 = .ok (.aload_n 1, 1) := by decide +kernel
theorem dX7_allWords_2 : decode cX7_allWords 2 = .ok (.iconst 0, 1) := by decide +kernel
theorem dX7_allWords_3 : decode cX7_allWords 3 = .ok (.aload_n 1, 1) := by decide +kernel
theorem dX7_allWords_4 : decode cX7_allWords 4 = .ok (.iconst 3, 1) := by decide +kernel
theorem dX7_allWords_5 : decode cX7_allWords 5 = .ok (.iaload, 1) := by decide +kernel
theorem dX7_allWords_6 : decode cX7_allWords 6 = .ok (.invokevirtual 104, 3) := by decide +kernel
theorem dX7_allWords_9 : decode cX7_allWords 9 = .ok (.aload_n 0, 1) := by decide +kernel
theorem dX7_allWords_10 : decode cX7_allWords 10 = .ok (.aload_n 1, 1) := by decide +kernel
theorem dX7_allWords_11 : decode cX7_allWords 11 = .ok (.iconst 1, 1) := by decide +kernel
theorem dX7_allWords_12 : decode cX7_allWords 12 = .ok (.aload_n 1, 1) := by decide +kernel
theorem dX7_allWords_13 : decode cX7_allWords 13 = .ok (.iconst 3, 1) := by decide +kernel
theorem dX7_allWords_14 : decode cX7_allWords 14 = .ok (.iaload, 1) := by decide +kernel
theorem dX7_allWords_15 : decode cX7_allWords 15 = .ok (.invokevirtual 104, 3) := by decide +kernel
theorem dX7_allWords_18 : decode cX7_allWords 18 = .ok (.iadd, 1) := by decide +kernel
theorem dX7_allWords_19 : decode cX7_allWords 19 = .ok (.ireturn, 1) := by decide +kernel
def FX7_allWords (T : zT) (p0 : Nat) (p1 : Nat) (h : zH) : Option (Int32 × zH) := (zai T h p1 3).bind fun x1 => zb2 (FX7_layWords T p0 p1 0 x1 h) fun x3 h4 => (zai T h4 p1 3).bind fun x5 => zb2 (FX7_layWords T p0 p1 1 x5 h4) fun x7 h8 => some ((x3 + x7), h8)
set_option maxHeartbeats 4000000 in
set_option maxRecDepth 100000 in
theorem BX7_allWords {X : zX} (C : zC X cX7_allWords 2 RX7 "allWords" (some .int) 6 149) {al : Bool} {hi : Nat} {h : zH} {p0 : Nat} {p1 : Nat} {r9 : (Int32 × zH)} (hf : FX7_allWords (xT X) p0 p1 h = some r9) : zW X 2 (zZ X al (some (.int r9.1), hi, r9.2)) 0 0 al hi h 0 [(0, .ref p0), (1, .ref p1)] [] := by
  unfold FX7_allWords at hf
  refine z_aload_n C dX7_allWords_0 0 rfl rfl ?_
  refine z_aload_n C dX7_allWords_1 1 rfl rfl ?_
  refine z_iconst C (v := 0) dX7_allWords_2 (by decide) ?_
  refine z_aload_n C dX7_allWords_3 1 rfl rfl ?_
  refine z_iconst C (v := 3) dX7_allWords_4 (by decide) ?_
  refine z_iaload C dX7_allWords_5 hf (fun x1 hf => ?_)
  obtain ⟨x3, h4, g2, hf⟩ := zbind2 hf
  refine z_callV (kc' := 0) (ks' := 0) C (MX7_layWords (xl X) (xD X) (xT X) (xlo X) al hi g2) (OX7_layWords g2) rfl cw_X7_104 yv_X7_layWords dX7_allWords_6 rfl (by decide) ⟨rfl, rfl⟩ (Nat.le_of_ble_eq_true rfl) (st := []) rfl ?_
  refine z_aload_n C dX7_allWords_9 0 rfl rfl ?_
  refine z_aload_n C dX7_allWords_10 1 rfl rfl ?_
  refine z_iconst C (v := 1) dX7_allWords_11 (by decide) ?_
  refine z_aload_n C dX7_allWords_12 1 rfl rfl ?_
  refine z_iconst C (v := 3) dX7_allWords_13 (by decide) ?_
  refine z_iaload C dX7_allWords_14 hf (fun x5 hf => ?_)
  obtain ⟨x7, h8, g6, hf⟩ := zbind2 hf
  refine z_callV (kc' := 0) (ks' := 0) C (MX7_layWords (xl X) (xD X) (xT X) (xlo X) al hi g6) (OX7_layWords g6) rfl cw_X7_104 yv_X7_layWords dX7_allWords_15 rfl (by decide) ⟨rfl, rfl⟩ (Nat.le_of_ble_eq_true rfl) (st := [.int x3]) rfl ?_
  refine z_iadd C dX7_allWords_18 ?_
  exact z_ireturn C dX7_allWords_19 (by cases hf; rfl)
theorem MX7_allWords (l : Launch) (D : va_G) (T : zT) (lo : Nat) (al : Bool) (hi : Nat) {h : zH} {p0 : Nat} {p1 : Nat} {v9 : Int32} {h9 : zH} (hf : FX7_allWords T p0 p1 h = some (v9, h9)) : zM l yX7_allWords (.code yX7_allWords cX7_allWords 2 (some .int) :: TW) ({ frames := 6, cells := 0, slots := 0, locals := 149 } : Room) D T lo al [.ref p0, .ref p1] hi h (some (.int v9), hi, h9) :=
  z_enter (own := RX7) (nm := "allWords") (lv := [(0, .ref p0), (1, .ref p1)]) (by decide +kernel) rfl rfl (Nat.le_of_ble_eq_true rfl) rfl (fun _ _ _ _ _ _ _ _ C => BX7_allWords C hf)
theorem dX7_writeOn_0 : decode cX7_writeOn 0 = .ok (.iload_n 1, 1) := by decide +kernel
theorem dX7_writeOn_1 : decode cX7_writeOn 1 = .ok (.aload_n 0, 1) := by decide +kernel
theorem dX7_writeOn_2 : decode cX7_writeOn 2 = .ok (.iload_n 1, 1) := by decide +kernel
theorem dX7_writeOn_3 : decode cX7_writeOn 3 = .ok (.iaload, 1) := by decide +kernel
theorem dX7_writeOn_4 : decode cX7_writeOn 4 = .ok (.invokestatic 73, 3) := by decide +kernel
theorem dX7_writeOn_7 : decode cX7_writeOn 7 = .ok (.istore 5, 2) := by decide +kernel
theorem dX7_writeOn_9 : decode cX7_writeOn 9 = .ok (.aload_n 0, 1) := by decide +kernel
theorem dX7_writeOn_10 : decode cX7_writeOn 10 = .ok (.iload 5, 2) := by decide +kernel
theorem dX7_writeOn_12 : decode cX7_writeOn 12 = .ok (.iload_n 2, 1) := by decide +kernel
theorem dX7_writeOn_13 : decode cX7_writeOn 13 = .ok (.iastore, 1) := by decide +kernel
theorem dX7_writeOn_14 : decode cX7_writeOn 14 = .ok (.aload_n 0, 1) := by decide +kernel
theorem dX7_writeOn_15 : decode cX7_writeOn 15 = .ok (.iload 5, 2) := by decide +kernel
theorem dX7_writeOn_17 : decode cX7_writeOn 17 = .ok (.iconst 1, 1) := by decide +kernel
theorem dX7_writeOn_18 : decode cX7_writeOn 18 = .ok (.iadd, 1) := by decide +kernel
theorem dX7_writeOn_19 : decode cX7_writeOn 19 = .ok (.iload_n 3, 1) := by decide +kernel
theorem dX7_writeOn_20 : decode cX7_writeOn 20 = .ok (.iastore, 1) := by decide +kernel
theorem dX7_writeOn_21 : decode cX7_writeOn 21 = .ok (.aload_n 0, 1) := by decide +kernel
theorem dX7_writeOn_22 : decode cX7_writeOn 22 = .ok (.iload 5, 2) := by decide +kernel
theorem dX7_writeOn_24 : decode cX7_writeOn 24 = .ok (.iconst 2, 1) := by decide +kernel
theorem dX7_writeOn_25 : decode cX7_writeOn 25 = .ok (.iadd, 1) := by decide +kernel
theorem dX7_writeOn_26 : decode cX7_writeOn 26 = .ok (.iload 4, 2) := by decide +kernel
theorem dX7_writeOn_28 : decode cX7_writeOn 28 = .ok (.iastore, 1) := by decide +kernel
theorem dX7_writeOn_29 : decode cX7_writeOn 29 = .ok (.aload_n 0, 1) := by decide +kernel
theorem dX7_writeOn_30 : decode cX7_writeOn 30 = .ok (.iload 5, 2) := by decide +kernel
theorem dX7_writeOn_32 : decode cX7_writeOn 32 = .ok (.iconst 3, 1) := by decide +kernel
theorem dX7_writeOn_33 : decode cX7_writeOn 33 = .ok (.iadd, 1) := by decide +kernel
theorem dX7_writeOn_34 : decode cX7_writeOn 34 = .ok (.bipush (-9), 2) := by decide +kernel
theorem dX7_writeOn_36 : decode cX7_writeOn 36 = .ok (.iastore, 1) := by decide +kernel
theorem dX7_writeOn_37 : decode cX7_writeOn 37 = .ok (.aload_n 0, 1) := by decide +kernel
theorem dX7_writeOn_38 : decode cX7_writeOn 38 = .ok (.iload_n 1, 1) := by decide +kernel
theorem dX7_writeOn_39 : decode cX7_writeOn 39 = .ok (.dup2, 1) := by decide +kernel
theorem dX7_writeOn_40 : decode cX7_writeOn 40 = .ok (.iaload, 1) := by decide +kernel
theorem dX7_writeOn_41 : decode cX7_writeOn 41 = .ok (.iconst 1, 1) := by decide +kernel
theorem dX7_writeOn_42 : decode cX7_writeOn 42 = .ok (.iadd, 1) := by decide +kernel
theorem dX7_writeOn_43 : decode cX7_writeOn 43 = .ok (.iastore, 1) := by decide +kernel
theorem dX7_writeOn_44 : decode cX7_writeOn 44 = .ok (.aload_n 0, 1) := by decide +kernel
theorem dX7_writeOn_45 : decode cX7_writeOn 45 = .ok (.iload_n 1, 1) := by decide +kernel
theorem dX7_writeOn_46 : decode cX7_writeOn 46 = .ok (.iaload, 1) := by decide +kernel
theorem dX7_writeOn_47 : decode cX7_writeOn 47 = .ok (.iconst 1, 1) := by decide +kernel
theorem dX7_writeOn_48 : decode cX7_writeOn 48 = .ok (.isub, 1) := by decide +kernel
theorem dX7_writeOn_49 : decode cX7_writeOn 49 = .ok (.ireturn, 1) := by decide +kernel
def FX7_writeOn (T : zT) (p0 : Nat) (p1 : Int32) (p2 : Int32) (p3 : Int32) (p4 : Int32) (h : zH) : Option (Int32 × zH) := (zai T h p0 p1).bind fun x1 => (FX7_markAt T p1 x1 h).bind fun x3 => (zas T h p0 x3 p2).bind fun h4 => (zas T h4 p0 (x3 + 1) p3).bind fun h5 => (zas T h5 p0 (x3 + 2) p4).bind fun h6 => (zas T h6 p0 (x3 + 3) (-9 : Int32)).bind fun h7 => (zai T h7 p0 p1).bind fun x8 => (zas T h7 p0 p1 (x8 + 1)).bind fun h9 => (zai T h9 p0 p1).bind fun x10 => some ((x10 - 1), h9)
set_option maxHeartbeats 4000000 in
set_option maxRecDepth 100000 in
theorem BX7_writeOn {X : zX} (C : zC X cX7_writeOn 6 RX7 "writeOn" (some .int) 1 21) {al : Bool} {hi : Nat} {h : zH} {p0 : Nat} {p1 : Int32} {p2 : Int32} {p3 : Int32} {p4 : Int32} {r9 : (Int32 × zH)} (hf : FX7_writeOn (xT X) p0 p1 p2 p3 p4 h = some r9) : zW X 6 (zZ X al (some (.int r9.1), hi, r9.2)) 0 0 al hi h 0 [(0, .ref p0), (1, .int p1), (2, .int p2), (3, .int p3), (4, .int p4)] [] := by
  unfold FX7_writeOn at hf
  refine z_iload_n C dX7_writeOn_0 1 rfl rfl ?_
  refine z_aload_n C dX7_writeOn_1 0 rfl rfl ?_
  refine z_iload_n C dX7_writeOn_2 1 rfl rfl ?_
  refine z_iaload C dX7_writeOn_3 hf (fun x1 hf => ?_)
  obtain ⟨x3, g2, hf⟩ := zbind hf
  refine z_callS (kc' := 0) (ks' := 0) C (MX7_markAt (xl X) (xD X) (xT X) (xlo X) al hi g2) cw_X7_73 ys_X7_markAt dX7_writeOn_4 rfl (by decide) ⟨rfl, rfl⟩ (Nat.le_of_ble_eq_true rfl) (st := []) rfl ?_
  refine z_istore C dX7_writeOn_7 (by decide) (lv' := [(5, .int x3), (0, .ref p0), (1, .int p1), (2, .int p2), (3, .int p3), (4, .int p4)]) rfl ?_
  refine z_aload_n C dX7_writeOn_9 1 rfl rfl ?_
  refine z_iload C dX7_writeOn_10 0 rfl ?_
  refine z_iload_n C dX7_writeOn_12 3 rfl rfl ?_
  refine z_iastore C dX7_writeOn_13 hf (fun h4 hf => ?_)
  refine z_aload_n C dX7_writeOn_14 1 rfl rfl ?_
  refine z_iload C dX7_writeOn_15 0 rfl ?_
  refine z_iconst C (v := 1) dX7_writeOn_17 (by decide) ?_
  refine z_iadd C dX7_writeOn_18 ?_
  refine z_iload_n C dX7_writeOn_19 4 rfl rfl ?_
  refine z_iastore C dX7_writeOn_20 hf (fun h5 hf => ?_)
  refine z_aload_n C dX7_writeOn_21 1 rfl rfl ?_
  refine z_iload C dX7_writeOn_22 0 rfl ?_
  refine z_iconst C (v := 2) dX7_writeOn_24 (by decide) ?_
  refine z_iadd C dX7_writeOn_25 ?_
  refine z_iload C dX7_writeOn_26 5 rfl ?_
  refine z_iastore C dX7_writeOn_28 hf (fun h6 hf => ?_)
  refine z_aload_n C dX7_writeOn_29 1 rfl rfl ?_
  refine z_iload C dX7_writeOn_30 0 rfl ?_
  refine z_iconst C (v := 3) dX7_writeOn_32 (by decide) ?_
  refine z_iadd C dX7_writeOn_33 ?_
  refine z_bipush C (v := (-9 : Int32)) dX7_writeOn_34 (by decide) ?_
  refine z_iastore C dX7_writeOn_36 hf (fun h7 hf => ?_)
  refine z_aload_n C dX7_writeOn_37 1 rfl rfl ?_
  refine z_iload_n C dX7_writeOn_38 2 rfl rfl ?_
  refine z_dup2 C dX7_writeOn_39 rfl rfl ?_
  refine z_iaload C dX7_writeOn_40 hf (fun x8 hf => ?_)
  refine z_iconst C (v := 1) dX7_writeOn_41 (by decide) ?_
  refine z_iadd C dX7_writeOn_42 ?_
  refine z_iastore C dX7_writeOn_43 hf (fun h9 hf => ?_)
  refine z_aload_n C dX7_writeOn_44 1 rfl rfl ?_
  refine z_iload_n C dX7_writeOn_45 2 rfl rfl ?_
  refine z_iaload C dX7_writeOn_46 hf (fun x10 hf => ?_)
  refine z_iconst C (v := 1) dX7_writeOn_47 (by decide) ?_
  refine z_isub C dX7_writeOn_48 ?_
  exact z_ireturn C dX7_writeOn_49 (by cases hf; rfl)
theorem MX7_writeOn (l : Launch) (D : va_G) (T : zT) (lo : Nat) (al : Bool) (hi : Nat) {h : zH} {p0 : Nat} {p1 : Int32} {p2 : Int32} {p3 : Int32} {p4 : Int32} {v9 : Int32} {h9 : zH} (hf : FX7_writeOn T p0 p1 p2 p3 p4 h = some (v9, h9)) : zM l yX7_writeOn (.code yX7_writeOn cX7_writeOn 6 (some .int) :: TW) ({ frames := 1, cells := 0, slots := 0, locals := 21 } : Room) D T lo al [.ref p0, .int p1, .int p2, .int p3, .int p4] hi h (some (.int v9), hi, h9) :=
  z_enter (own := RX7) (nm := "writeOn") (lv := [(0, .ref p0), (1, .int p1), (2, .int p2), (3, .int p3), (4, .int p4)]) (by decide +kernel) rfl rfl (Nat.le_of_ble_eq_true rfl) rfl (fun _ _ _ _ _ _ _ _ C => BX7_writeOn C hf)
theorem dX7_eraseOn_0 : decode cX7_eraseOn 0 = .ok (.aload_n 0, 1) := by decide +kernel
theorem dX7_eraseOn_1 : decode cX7_eraseOn 1 = .ok (.iload_n 1, 1) := by decide +kernel
theorem dX7_eraseOn_2 : decode cX7_eraseOn 2 = .ok (.iload_n 2, 1) := by decide +kernel
theorem dX7_eraseOn_3 : decode cX7_eraseOn 3 = .ok (.invokestatic 73, 3) := by decide +kernel
theorem dX7_eraseOn_6 : decode cX7_eraseOn 6 = .ok (.iaload, 1) := by decide +kernel
theorem dX7_eraseOn_7 : decode cX7_eraseOn 7 = .ok (.istore_n 3, 1) := by decide +kernel
theorem dX7_eraseOn_8 : decode cX7_eraseOn 8 = .ok (.iconst 0, 1) := by decide +kernel
theorem dX7_eraseOn_9 : decode cX7_eraseOn 9 = .ok (.istore 4, 2) := by decide +kernel
theorem dX7_eraseOn_11 : decode cX7_eraseOn 11 = .ok (.iload 4, 2) := by decide +kernel
theorem dX7_eraseOn_13 : decode cX7_eraseOn 13 = .ok (.iconst 4, 1) := by decide +kernel
theorem dX7_eraseOn_14 : decode cX7_eraseOn 14 = .ok (.if_icmp .ge 33, 3) := by decide +kernel
theorem dX7_eraseOn_17 : decode cX7_eraseOn 17 = .ok (.iload_n 2, 1) := by decide +kernel
theorem dX7_eraseOn_18 : decode cX7_eraseOn 18 = .ok (.ifCond .ne 29, 3) := by decide +kernel
theorem dX7_eraseOn_21 : decode cX7_eraseOn 21 = .ok (.aload_n 0, 1) := by decide +kernel
theorem dX7_eraseOn_22 : decode cX7_eraseOn 22 = .ok (.iload_n 1, 1) := by decide +kernel
theorem dX7_eraseOn_23 : decode cX7_eraseOn 23 = .ok (.iconst 0, 1) := by decide +kernel
theorem dX7_eraseOn_24 : decode cX7_eraseOn 24 = .ok (.invokestatic 73, 3) := by decide +kernel
theorem dX7_eraseOn_27 : decode cX7_eraseOn 27 = .ok (.iload 4, 2) := by decide +kernel
theorem dX7_eraseOn_29 : decode cX7_eraseOn 29 = .ok (.iadd, 1) := by decide +kernel
theorem dX7_eraseOn_30 : decode cX7_eraseOn 30 = .ok (.aload_n 0, 1) := by decide +kernel
theorem dX7_eraseOn_31 : decode cX7_eraseOn 31 = .ok (.iload_n 1, 1) := by decide +kernel
theorem dX7_eraseOn_32 : decode cX7_eraseOn 32 = .ok (.iconst 1, 1) := by decide +kernel
theorem dX7_eraseOn_33 : decode cX7_eraseOn 33 = .ok (.invokestatic 73, 3) := by decide +kernel
theorem dX7_eraseOn_36 : decode cX7_eraseOn 36 = .ok (.iload 4, 2) := by decide +kernel
theorem dX7_eraseOn_38 : decode cX7_eraseOn 38 = .ok (.iadd, 1) := by decide +kernel
theorem dX7_eraseOn_39 : decode cX7_eraseOn 39 = .ok (.iaload, 1) := by decide +kernel
theorem dX7_eraseOn_40 : decode cX7_eraseOn 40 = .ok (.iastore, 1) := by decide +kernel
theorem dX7_eraseOn_41 : decode cX7_eraseOn 41 = .ok (.iinc 4 1, 3) := by decide +kernel
theorem dX7_eraseOn_44 : decode cX7_eraseOn 44 = .ok (.goto (-33), 3) := by decide +kernel
theorem dX7_eraseOn_47 : decode cX7_eraseOn 47 = .ok (.aload_n 0, 1) := by decide +kernel
theorem dX7_eraseOn_48 : decode cX7_eraseOn 48 = .ok (.iload_n 1, 1) := by decide +kernel
theorem dX7_eraseOn_49 : decode cX7_eraseOn 49 = .ok (.dup2, 1) := by decide +kernel
theorem dX7_eraseOn_50 : decode cX7_eraseOn 50 = .ok (.iaload, 1) := by decide +kernel
theorem dX7_eraseOn_51 : decode cX7_eraseOn 51 = .ok (.iconst 1, 1) := by decide +kernel
theorem dX7_eraseOn_52 : decode cX7_eraseOn 52 = .ok (.isub, 1) := by decide +kernel
theorem dX7_eraseOn_53 : decode cX7_eraseOn 53 = .ok (.iastore, 1) := by decide +kernel
theorem dX7_eraseOn_54 : decode cX7_eraseOn 54 = .ok (.iload_n 3, 1) := by decide +kernel
theorem dX7_eraseOn_55 : decode cX7_eraseOn 55 = .ok (.ireturn, 1) := by decide +kernel
def LX7_eraseOn_11 {ρ : Type} (T : zT) (x4 : Nat) (x5 : Int32) (x6 : Int32) (x7 : Int32) (K0 : zH → Option ρ) : Nat → Int32 → zH → Option ρ
  | 0, _, _ => none
  | k + 1, x8, h9 => if 4 ≤ x8 then (K0 h9) else (if x6 = 0 then ((FX7_markAt T x5 0 h9).bind fun x11 => (FX7_markAt T x5 1 h9).bind fun x13 => (zai T h9 x4 (x13 + x8)).bind fun x14 => (zas T h9 x4 (x11 + x8) x14).bind fun h15 => LX7_eraseOn_11 T x4 x5 x6 x7 K0 k (x8 + 1) h15) else (K0 h9))
set_option maxHeartbeats 4000000 in
set_option maxRecDepth 100000 in
theorem LX7_eraseOn_11_ok {X : zX} (C : zC X cX7_eraseOn 5 RX7 "eraseOn" (some .int) 1 21) {Z : State → Prop} {al : Bool} {hi : Nat} {ρ : Type} {r9 : ρ} {x4 : Nat} {x5 : Int32} {x6 : Int32} {x7 : Int32} {K0 : zH → Option ρ} (hK0 : ∀ (g9 : zH), K0 g9 = some r9 → zW X 5 Z 0 0 al hi g9 47 [(0, .ref x4), (1, .int x5), (3, .int x7)] []) : ∀ (k : Nat) (x8 : Int32) (h9 : zH), LX7_eraseOn_11 (xT X) x4 x5 x6 x7 K0 k x8 h9 = some r9 → zW X 5 Z 0 0 al hi h9 11 [(0, .ref x4), (1, .int x5), (2, .int x6), (3, .int x7), (4, .int x8)] [] := by
  intro k
  induction k with
  | zero =>
    intro x8 h9 hf
    have hf : none = some r9 := hf
    cases hf
  | succ k ih =>
    intro x8 h9 hf
    rw [LX7_eraseOn_11.eq_2] at hf
    refine z_iload C dX7_eraseOn_11 4 rfl ?_
    refine z_iconst C (v := 4) dX7_eraseOn_13 (by decide) ?_
    refine z_icmp_ge (tgt := 47) C dX7_eraseOn_14 (by decide) hf (fun hf => ?_) (fun hf => ?_)
    · refine z_sub [0, 1, 3] rfl ?_
      exact hK0 _ hf
    · refine z_iload_n C dX7_eraseOn_17 2 rfl rfl ?_
      refine z_if_ne (tgt := 47) C dX7_eraseOn_18 (by decide) hf (fun hf => ?_) (fun hf => ?_)
      · refine z_sub [0, 1, 3] rfl ?_
        exact hK0 _ hf
      · refine z_aload_n C dX7_eraseOn_21 0 rfl rfl ?_
        refine z_iload_n C dX7_eraseOn_22 1 rfl rfl ?_
        refine z_iconst C (v := 0) dX7_eraseOn_23 (by decide) ?_
        obtain ⟨x11, g10, hf⟩ := zbind hf
        refine z_callS (kc' := 0) (ks' := 0) C (MX7_markAt (xl X) (xD X) (xT X) (xlo X) al hi g10) cw_X7_73 ys_X7_markAt dX7_eraseOn_24 rfl (by decide) ⟨rfl, rfl⟩ (Nat.le_of_ble_eq_true rfl) (st := [.ref x4]) rfl ?_
        refine z_iload C dX7_eraseOn_27 4 rfl ?_
        refine z_iadd C dX7_eraseOn_29 ?_
        refine z_aload_n C dX7_eraseOn_30 0 rfl rfl ?_
        refine z_iload_n C dX7_eraseOn_31 1 rfl rfl ?_
        refine z_iconst C (v := 1) dX7_eraseOn_32 (by decide) ?_
        obtain ⟨x13, g12, hf⟩ := zbind hf
        refine z_callS (kc' := 0) (ks' := 0) C (MX7_markAt (xl X) (xD X) (xT X) (xlo X) al hi g12) cw_X7_73 ys_X7_markAt dX7_eraseOn_33 rfl (by decide) ⟨rfl, rfl⟩ (Nat.le_of_ble_eq_true rfl) (st := [.ref x4, .int (x11 + x8), .ref x4]) rfl ?_
        refine z_iload C dX7_eraseOn_36 4 rfl ?_
        refine z_iadd C dX7_eraseOn_38 ?_
        refine z_iaload C dX7_eraseOn_39 hf (fun x14 hf => ?_)
        refine z_iastore C dX7_eraseOn_40 hf (fun h15 hf => ?_)
        refine z_iinc C dX7_eraseOn_41 (k := 4) (d := 1) rfl (by decide) (by decide) (lv' := [(4, .int (x8 + 1)), (0, .ref x4), (1, .int x5), (2, .int x6), (3, .int x7)]) rfl ?_
        refine z_goto (tgt := 11) C dX7_eraseOn_44 (by decide) ?_
        refine z_sub [1, 2, 3, 4, 0] rfl ?_
        exact ih _ _ hf
def FX7_eraseOn (T : zT) (p0 : Nat) (p1 : Int32) (p2 : Int32) (h : zH) : Option (Int32 × zH) := (FX7_markAt T p1 p2 h).bind fun x2 => (zai T h p0 x2).bind fun x3 => LX7_eraseOn_11 T p0 p1 p2 x3 (fun (h16 : zH) => (zai T h16 p0 p1).bind fun x17 => (zas T h16 p0 p1 (x17 - 1)).bind fun h18 => some (x3, h18)) FUEL 0 h
set_option maxHeartbeats 4000000 in
set_option maxRecDepth 100000 in
theorem BX7_eraseOn {X : zX} (C : zC X cX7_eraseOn 5 RX7 "eraseOn" (some .int) 1 21) {al : Bool} {hi : Nat} {h : zH} {p0 : Nat} {p1 : Int32} {p2 : Int32} {r9 : (Int32 × zH)} (hf : FX7_eraseOn (xT X) p0 p1 p2 h = some r9) : zW X 5 (zZ X al (some (.int r9.1), hi, r9.2)) 0 0 al hi h 0 [(0, .ref p0), (1, .int p1), (2, .int p2)] [] := by
  unfold FX7_eraseOn at hf
  refine z_aload_n C dX7_eraseOn_0 0 rfl rfl ?_
  refine z_iload_n C dX7_eraseOn_1 1 rfl rfl ?_
  refine z_iload_n C dX7_eraseOn_2 2 rfl rfl ?_
  obtain ⟨x2, g1, hf⟩ := zbind hf
  refine z_callS (kc' := 0) (ks' := 0) C (MX7_markAt (xl X) (xD X) (xT X) (xlo X) al hi g1) cw_X7_73 ys_X7_markAt dX7_eraseOn_3 rfl (by decide) ⟨rfl, rfl⟩ (Nat.le_of_ble_eq_true rfl) (st := [.ref p0]) rfl ?_
  refine z_iaload C dX7_eraseOn_6 hf (fun x3 hf => ?_)
  refine z_istore_n C dX7_eraseOn_7 rfl (by decide) (lv' := [(3, .int x3), (0, .ref p0), (1, .int p1), (2, .int p2)]) rfl ?_
  refine z_iconst C (v := 0) dX7_eraseOn_8 (by decide) ?_
  refine z_istore C dX7_eraseOn_9 (by decide) (lv' := [(4, .int 0), (3, .int x3), (0, .ref p0), (1, .int p1), (2, .int p2)]) rfl ?_
  refine z_sub [2, 3, 4, 1, 0] rfl ?_
  refine LX7_eraseOn_11_ok C ?_ FUEL _ _ hf
  · intro h16 hf
    refine z_aload_n C dX7_eraseOn_47 0 rfl rfl ?_
    refine z_iload_n C dX7_eraseOn_48 1 rfl rfl ?_
    refine z_dup2 C dX7_eraseOn_49 rfl rfl ?_
    refine z_iaload C dX7_eraseOn_50 hf (fun x17 hf => ?_)
    refine z_iconst C (v := 1) dX7_eraseOn_51 (by decide) ?_
    refine z_isub C dX7_eraseOn_52 ?_
    refine z_iastore C dX7_eraseOn_53 hf (fun h18 hf => ?_)
    refine z_iload_n C dX7_eraseOn_54 2 rfl rfl ?_
    exact z_ireturn C dX7_eraseOn_55 (by cases hf; rfl)
theorem MX7_eraseOn (l : Launch) (D : va_G) (T : zT) (lo : Nat) (al : Bool) (hi : Nat) {h : zH} {p0 : Nat} {p1 : Int32} {p2 : Int32} {v9 : Int32} {h9 : zH} (hf : FX7_eraseOn T p0 p1 p2 h = some (v9, h9)) : zM l yX7_eraseOn (.code yX7_eraseOn cX7_eraseOn 5 (some .int) :: TW) ({ frames := 1, cells := 0, slots := 0, locals := 21 } : Room) D T lo al [.ref p0, .int p1, .int p2] hi h (some (.int v9), hi, h9) :=
  z_enter (own := RX7) (nm := "eraseOn") (lv := [(0, .ref p0), (1, .int p1), (2, .int p2)]) (by decide +kernel) rfl rfl (Nat.le_of_ble_eq_true rfl) rfl (fun _ _ _ _ _ _ _ _ C => BX7_eraseOn C hf)
