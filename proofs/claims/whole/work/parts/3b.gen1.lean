theorem mw_26 : (Jvm.Cond.selects "CrossedSheetModel" ({ cls := "CrossedSheetModel", name := "refused", desc := "(I)Z" } : Jvm.MethodName) ({ cls := "CrossedSheetModel", name := "refused", desc := "(I)Z" } : Jvm.MethodName)) ∈ TW := TWm 26 (by decide +kernel) (by decide +kernel)
theorem mw_27 : (Jvm.Cond.selects "CrossedSheetModel" ({ cls := "CrossedSheetModel", name := "readAll", desc := "()Z" } : Jvm.MethodName) ({ cls := "CrossedSheetModel", name := "readAll", desc := "()Z" } : Jvm.MethodName)) ∈ TW := TWm 27 (by decide +kernel) (by decide +kernel)
theorem mw_28 : (Jvm.Cond.selects "CrossedSheetModel" ({ cls := "CrossedSheetModel", name := "eat", desc := "(I)Z" } : Jvm.MethodName) ({ cls := "CrossedSheetModel", name := "eat", desc := "(I)Z" } : Jvm.MethodName)) ∈ TW := TWm 28 (by decide +kernel) (by decide +kernel)
theorem mw_29 : (Jvm.Cond.selects "CrossedSheetModel" ({ cls := "CrossedSheetModel", name := "digit", desc := "(II)I" } : Jvm.MethodName) ({ cls := "CrossedSheetModel", name := "digit", desc := "(II)I" } : Jvm.MethodName)) ∈ TW := TWm 29 (by decide +kernel) (by decide +kernel)
theorem mw_30 : (Jvm.Cond.selects "CrossedSheetModel" ({ cls := "CrossedSheetModel", name := "readPart", desc := "()Z" } : Jvm.MethodName) ({ cls := "CrossedSheetModel", name := "readPart", desc := "()Z" } : Jvm.MethodName)) ∈ TW := TWm 30 (by decide +kernel) (by decide +kernel)
theorem mw_31 : (Jvm.Cond.selects "CrossedSheetModel" ({ cls := "CrossedSheetModel", name := "hasAnyRoom", desc := "()Z" } : Jvm.MethodName) ({ cls := "CrossedSheetModel", name := "hasAnyRoom", desc := "()Z" } : Jvm.MethodName)) ∈ TW := TWm 31 (by decide +kernel) (by decide +kernel)
theorem mw_32 : (Jvm.Cond.selects "CrossedSheetModel" ({ cls := "CrossedSheetModel", name := "hasRoom", desc := "(I)Z" } : Jvm.MethodName) ({ cls := "CrossedSheetModel", name := "hasRoom", desc := "(I)Z" } : Jvm.MethodName)) ∈ TW := TWm 32 (by decide +kernel) (by decide +kernel)
theorem mw_33 : (Jvm.Cond.selects "CrossedSheetModel" ({ cls := "CrossedSheetModel", name := "readMark", desc := "()Z" } : Jvm.MethodName) ({ cls := "CrossedSheetModel", name := "readMark", desc := "()Z" } : Jvm.MethodName)) ∈ TW := TWm 33 (by decide +kernel) (by decide +kernel)
theorem mw_34 : (Jvm.Cond.selects "CrossedSheetModel" ({ cls := "CrossedSheetModel", name := "readSign", desc := "()I" } : Jvm.MethodName) ({ cls := "CrossedSheetModel", name := "readSign", desc := "()I" } : Jvm.MethodName)) ∈ TW := TWm 34 (by decide +kernel) (by decide +kernel)
theorem mw_35 : (Jvm.Cond.selects "CrossedSheetModel" ({ cls := "CrossedSheetModel", name := "readNumber", desc := "(III)Z" } : Jvm.MethodName) ({ cls := "CrossedSheetModel", name := "readNumber", desc := "(III)Z" } : Jvm.MethodName)) ∈ TW := TWm 35 (by decide +kernel) (by decide +kernel)
theorem mw_36 : (Jvm.Cond.selects "CrossedSheetModel" ({ cls := "CrossedSheetModel", name := "readPen", desc := "()Z" } : Jvm.MethodName) ({ cls := "CrossedSheetModel", name := "readPen", desc := "()Z" } : Jvm.MethodName)) ∈ TW := TWm 36 (by decide +kernel) (by decide +kernel)
theorem mw_977 : (Jvm.Cond.methodLink "CrossedSheetModel" (50 : Nat) ({ cls := "CrossedSheetModel", name := "clear", desc := "([III)V" } : Jvm.MethodName)) ∈ TW := TWm 977 (by decide +kernel) (by decide +kernel)
theorem mw_978 : (Jvm.Cond.static ({ cls := "CrossedSheetModel", name := "clear", desc := "([III)V" } : Jvm.MethodName)) ∈ TW := TWm 978 (by decide +kernel) (by decide +kernel)
theorem mw_979 : (Jvm.Cond.code ({ cls := "CrossedSheetModel", name := "clear", desc := "([III)V" } : Jvm.MethodName) prog_9_method_6_code (4 : Nat) (Option.none : Option Jvm.ClassFile.FieldType)) ∈ TW := TWm 979 (by decide +kernel) (by decide +kernel)
theorem mw_981 : (Jvm.Cond.fieldLink "CrossedSheetModel" (7 : Nat) "CrossedSheetModel" "text" "[I") ∈ TW := TWm 981 (by decide +kernel) (by decide +kernel)
theorem mw_982 : (Jvm.Cond.fieldLink "CrossedSheetModel" (117 : Nat) "CrossedSheetModel" "textSize" "I") ∈ TW := TWm 982 (by decide +kernel) (by decide +kernel)
theorem mw_983 : (Jvm.Cond.fieldLink "CrossedSheetModel" (124 : Nat) "CrossedSheetModel" "spot" "I") ∈ TW := TWm 983 (by decide +kernel) (by decide +kernel)
theorem mw_984 : (Jvm.Cond.fieldLink "CrossedSheetModel" (13 : Nat) "CrossedSheetModel" "read" "[I") ∈ TW := TWm 984 (by decide +kernel) (by decide +kernel)
theorem mw_987 : (Jvm.Cond.fieldLink "CrossedSheetModel" (22 : Nat) "CrossedSheetModel" "other" "[I") ∈ TW := TWm 987 (by decide +kernel) (by decide +kernel)
theorem mw_989 : (Jvm.Cond.fieldLink "CrossedSheetModel" (168 : Nat) "CrossedSheetModel" "acts" "I") ∈ TW := TWm 989 (by decide +kernel) (by decide +kernel)
theorem mw_991 : (Jvm.Cond.fieldLink "CrossedSheetModel" (31 : Nat) "CrossedSheetModel" "isKept" "[Z") ∈ TW := TWm 991 (by decide +kernel) (by decide +kernel)
theorem mw_1047 : (Jvm.Cond.constantLong "CrossedSheetModel" (115 : Nat) (255 : Int64)) ∈ TW := TWm 1047 (by decide +kernel) (by decide +kernel)
theorem mw_1051 : (Jvm.Cond.methodLink "CrossedSheetModel" (120 : Nat) ({ cls := "CrossedSheetModel", name := "refused", desc := "(I)Z" } : Jvm.MethodName)) ∈ TW := TWm 1051 (by decide +kernel) (by decide +kernel)
theorem mw_1053 : (Jvm.Cond.instanceMethod ({ cls := "CrossedSheetModel", name := "refused", desc := "(I)Z" } : Jvm.MethodName)) ∈ TW := TWm 1053 (by decide +kernel) (by decide +kernel)
theorem mw_1054 : (Jvm.Cond.code ({ cls := "CrossedSheetModel", name := "refused", desc := "(I)Z" } : Jvm.MethodName) prog_9_method_3_code (2 : Nat) (Option.some Jvm.ClassFile.FieldType.boolean)) ∈ TW := TWm 1054 (by decide +kernel) (by decide +kernel)
theorem mw_1063 : (Jvm.Cond.methodLink "CrossedSheetModel" (165 : Nat) ({ cls := "CrossedSheetModel", name := "readAll", desc := "()Z" } : Jvm.MethodName)) ∈ TW := TWm 1063 (by decide +kernel) (by decide +kernel)
theorem mw_1065 : (Jvm.Cond.instanceMethod ({ cls := "CrossedSheetModel", name := "readAll", desc := "()Z" } : Jvm.MethodName)) ∈ TW := TWm 1065 (by decide +kernel) (by decide +kernel)
theorem mw_1066 : (Jvm.Cond.code ({ cls := "CrossedSheetModel", name := "readAll", desc := "()Z" } : Jvm.MethodName) prog_9_method_41_code (3 : Nat) (Option.some Jvm.ClassFile.FieldType.boolean)) ∈ TW := TWm 1066 (by decide +kernel) (by decide +kernel)
theorem mw_1067 : (Jvm.Cond.methodLink "CrossedSheetModel" (129 : Nat) ({ cls := "CrossedSheetModel", name := "eat", desc := "(I)Z" } : Jvm.MethodName)) ∈ TW := TWm 1067 (by decide +kernel) (by decide +kernel)
theorem mw_1069 : (Jvm.Cond.instanceMethod ({ cls := "CrossedSheetModel", name := "eat", desc := "(I)Z" } : Jvm.MethodName)) ∈ TW := TWm 1069 (by decide +kernel) (by decide +kernel)
theorem mw_1070 : (Jvm.Cond.code ({ cls := "CrossedSheetModel", name := "eat", desc := "(I)Z" } : Jvm.MethodName) prog_9_method_32_code (3 : Nat) (Option.some Jvm.ClassFile.FieldType.boolean)) ∈ TW := TWm 1070 (by decide +kernel) (by decide +kernel)
theorem mw_1071 : (Jvm.Cond.methodLink "CrossedSheetModel" (137 : Nat) ({ cls := "CrossedSheetModel", name := "digit", desc := "(II)I" } : Jvm.MethodName)) ∈ TW := TWm 1071 (by decide +kernel) (by decide +kernel)
theorem mw_1073 : (Jvm.Cond.instanceMethod ({ cls := "CrossedSheetModel", name := "digit", desc := "(II)I" } : Jvm.MethodName)) ∈ TW := TWm 1073 (by decide +kernel) (by decide +kernel)
theorem mw_1074 : (Jvm.Cond.code ({ cls := "CrossedSheetModel", name := "digit", desc := "(II)I" } : Jvm.MethodName) prog_9_method_33_code (5 : Nat) (Option.some Jvm.ClassFile.FieldType.int)) ∈ TW := TWm 1074 (by decide +kernel) (by decide +kernel)
theorem mw_1075 : (Jvm.Cond.constantLong "CrossedSheetModel" (127 : Nat) (9 : Int64)) ∈ TW := TWm 1075 (by decide +kernel) (by decide +kernel)
theorem mw_1076 : (Jvm.Cond.methodLink "CrossedSheetModel" (162 : Nat) ({ cls := "CrossedSheetModel", name := "readPart", desc := "()Z" } : Jvm.MethodName)) ∈ TW := TWm 1076 (by decide +kernel) (by decide +kernel)
theorem mw_1078 : (Jvm.Cond.instanceMethod ({ cls := "CrossedSheetModel", name := "readPart", desc := "()Z" } : Jvm.MethodName)) ∈ TW := TWm 1078 (by decide +kernel) (by decide +kernel)
theorem mw_1079 : (Jvm.Cond.code ({ cls := "CrossedSheetModel", name := "readPart", desc := "()Z" } : Jvm.MethodName) prog_9_method_40_code (1 : Nat) (Option.some Jvm.ClassFile.FieldType.boolean)) ∈ TW := TWm 1079 (by decide +kernel) (by decide +kernel)
theorem mw_1080 : (Jvm.Cond.methodLink "CrossedSheetModel" (148 : Nat) ({ cls := "CrossedSheetModel", name := "hasAnyRoom", desc := "()Z" } : Jvm.MethodName)) ∈ TW := TWm 1080 (by decide +kernel) (by decide +kernel)
theorem mw_1082 : (Jvm.Cond.instanceMethod ({ cls := "CrossedSheetModel", name := "hasAnyRoom", desc := "()Z" } : Jvm.MethodName)) ∈ TW := TWm 1082 (by decide +kernel) (by decide +kernel)
theorem mw_1083 : (Jvm.Cond.code ({ cls := "CrossedSheetModel", name := "hasAnyRoom", desc := "()Z" } : Jvm.MethodName) prog_9_method_36_code (3 : Nat) (Option.some Jvm.ClassFile.FieldType.boolean)) ∈ TW := TWm 1083 (by decide +kernel) (by decide +kernel)
theorem mw_1084 : (Jvm.Cond.methodLink "CrossedSheetModel" (134 : Nat) ({ cls := "CrossedSheetModel", name := "hasRoom", desc := "(I)Z" } : Jvm.MethodName)) ∈ TW := TWm 1084 (by decide +kernel) (by decide +kernel)
theorem mw_1086 : (Jvm.Cond.instanceMethod ({ cls := "CrossedSheetModel", name := "hasRoom", desc := "(I)Z" } : Jvm.MethodName)) ∈ TW := TWm 1086 (by decide +kernel) (by decide +kernel)
theorem mw_1087 : (Jvm.Cond.code ({ cls := "CrossedSheetModel", name := "hasRoom", desc := "(I)Z" } : Jvm.MethodName) prog_9_method_35_code (4 : Nat) (Option.some Jvm.ClassFile.FieldType.boolean)) ∈ TW := TWm 1087 (by decide +kernel) (by decide +kernel)
theorem mw_1091 : (Jvm.Cond.methodLink "CrossedSheetModel" (152 : Nat) ({ cls := "CrossedSheetModel", name := "readMark", desc := "()Z" } : Jvm.MethodName)) ∈ TW := TWm 1091 (by decide +kernel) (by decide +kernel)
theorem mw_1093 : (Jvm.Cond.instanceMethod ({ cls := "CrossedSheetModel", name := "readMark", desc := "()Z" } : Jvm.MethodName)) ∈ TW := TWm 1093 (by decide +kernel) (by decide +kernel)
theorem mw_1094 : (Jvm.Cond.code ({ cls := "CrossedSheetModel", name := "readMark", desc := "()Z" } : Jvm.MethodName) prog_9_method_37_code (6 : Nat) (Option.some Jvm.ClassFile.FieldType.boolean)) ∈ TW := TWm 1094 (by decide +kernel) (by decide +kernel)
theorem mw_1095 : (Jvm.Cond.methodLink "CrossedSheetModel" (140 : Nat) ({ cls := "CrossedSheetModel", name := "readSign", desc := "()I" } : Jvm.MethodName)) ∈ TW := TWm 1095 (by decide +kernel) (by decide +kernel)
theorem mw_1097 : (Jvm.Cond.instanceMethod ({ cls := "CrossedSheetModel", name := "readSign", desc := "()I" } : Jvm.MethodName)) ∈ TW := TWm 1097 (by decide +kernel) (by decide +kernel)
theorem mw_1098 : (Jvm.Cond.code ({ cls := "CrossedSheetModel", name := "readSign", desc := "()I" } : Jvm.MethodName) prog_9_method_34_code (3 : Nat) (Option.some Jvm.ClassFile.FieldType.int)) ∈ TW := TWm 1098 (by decide +kernel) (by decide +kernel)
theorem mw_1099 : (Jvm.Cond.constantLong "CrossedSheetModel" (132 : Nat) (25 : Int64)) ∈ TW := TWm 1099 (by decide +kernel) (by decide +kernel)
theorem mw_1100 : (Jvm.Cond.methodLink "CrossedSheetModel" (144 : Nat) ({ cls := "CrossedSheetModel", name := "writeOn", desc := "([IIIII)I" } : Jvm.MethodName)) ∈ TW := TWm 1100 (by decide +kernel) (by decide +kernel)
theorem mw_1101 : (Jvm.Cond.static ({ cls := "CrossedSheetModel", name := "writeOn", desc := "([IIIII)I" } : Jvm.MethodName)) ∈ TW := TWm 1101 (by decide +kernel) (by decide +kernel)
theorem mw_1102 : (Jvm.Cond.code ({ cls := "CrossedSheetModel", name := "writeOn", desc := "([IIIII)I" } : Jvm.MethodName) prog_9_method_24_code (6 : Nat) (Option.some Jvm.ClassFile.FieldType.int)) ∈ TW := TWm 1102 (by decide +kernel) (by decide +kernel)
theorem mw_1106 : (Jvm.Cond.methodLink "CrossedSheetModel" (155 : Nat) ({ cls := "CrossedSheetModel", name := "readNumber", desc := "(III)Z" } : Jvm.MethodName)) ∈ TW := TWm 1106 (by decide +kernel) (by decide +kernel)
theorem mw_1108 : (Jvm.Cond.instanceMethod ({ cls := "CrossedSheetModel", name := "readNumber", desc := "(III)Z" } : Jvm.MethodName)) ∈ TW := TWm 1108 (by decide +kernel) (by decide +kernel)
theorem mw_1109 : (Jvm.Cond.code ({ cls := "CrossedSheetModel", name := "readNumber", desc := "(III)Z" } : Jvm.MethodName) prog_9_method_38_code (5 : Nat) (Option.some Jvm.ClassFile.FieldType.boolean)) ∈ TW := TWm 1109 (by decide +kernel) (by decide +kernel)
theorem mw_1110 : (Jvm.Cond.methodLink "CrossedSheetModel" (159 : Nat) ({ cls := "CrossedSheetModel", name := "readPen", desc := "()Z" } : Jvm.MethodName)) ∈ TW := TWm 1110 (by decide +kernel) (by decide +kernel)
theorem mw_1112 : (Jvm.Cond.instanceMethod ({ cls := "CrossedSheetModel", name := "readPen", desc := "()Z" } : Jvm.MethodName)) ∈ TW := TWm 1112 (by decide +kernel) (by decide +kernel)
theorem mw_1113 : (Jvm.Cond.code ({ cls := "CrossedSheetModel", name := "readPen", desc := "()Z" } : Jvm.MethodName) prog_9_method_39_code (5 : Nat) (Option.some Jvm.ClassFile.FieldType.boolean)) ∈ TW := TWm 1113 (by decide +kernel) (by decide +kernel)
theorem mw_1114 : (Jvm.Cond.methodLink "CrossedSheetModel" (111 : Nat) ({ cls := "CrossedSheetModel", name := "penOn", desc := "([IIIII)V" } : Jvm.MethodName)) ∈ TW := TWm 1114 (by decide +kernel) (by decide +kernel)
theorem mw_1115 : (Jvm.Cond.static ({ cls := "CrossedSheetModel", name := "penOn", desc := "([IIIII)V" } : Jvm.MethodName)) ∈ TW := TWm 1115 (by decide +kernel) (by decide +kernel)
theorem mw_1116 : (Jvm.Cond.code ({ cls := "CrossedSheetModel", name := "penOn", desc := "([IIIII)V" } : Jvm.MethodName) prog_9_method_28_code (5 : Nat) (Option.none : Option Jvm.ClassFile.FieldType)) ∈ TW := TWm 1116 (by decide +kernel) (by decide +kernel)
theorem mw_1121 : (Jvm.Cond.methodLink "CrossedSheetModel" (107 : Nat) ({ cls := "CrossedSheetModel", name := "copyPage", desc := "([II[II)V" } : Jvm.MethodName)) ∈ TW := TWm 1121 (by decide +kernel) (by decide +kernel)
theorem mw_1122 : (Jvm.Cond.static ({ cls := "CrossedSheetModel", name := "copyPage", desc := "([II[II)V" } : Jvm.MethodName)) ∈ TW := TWm 1122 (by decide +kernel) (by decide +kernel)
theorem mw_1123 : (Jvm.Cond.code ({ cls := "CrossedSheetModel", name := "copyPage", desc := "([II[II)V" } : Jvm.MethodName) prog_9_method_5_code (5 : Nat) (Option.none : Option Jvm.ClassFile.FieldType)) ∈ TW := TWm 1123 (by decide +kernel) (by decide +kernel)
theorem mw_1124 : (Jvm.Cond.methodLink "CrossedSheetModel" (171 : Nat) ({ cls := "CrossedSheetModel", name := "marksOf", desc := "([I)I" } : Jvm.MethodName)) ∈ TW := TWm 1124 (by decide +kernel) (by decide +kernel)
theorem mw_1125 : (Jvm.Cond.static ({ cls := "CrossedSheetModel", name := "marksOf", desc := "([I)I" } : Jvm.MethodName)) ∈ TW := TWm 1125 (by decide +kernel) (by decide +kernel)
theorem mw_1126 : (Jvm.Cond.code ({ cls := "CrossedSheetModel", name := "marksOf", desc := "([I)I" } : Jvm.MethodName) prog_9_method_18_code (3 : Nat) (Option.some Jvm.ClassFile.FieldType.int)) ∈ TW := TWm 1126 (by decide +kernel) (by decide +kernel)
theorem fl_X7_7 : zF RX7 7 7 1 (.array .int) true := ⟨RX7, TX7, 19, tyX7, rfl, inTX7, by decide, mw_981, by decide +kernel, tyX7_ok, nmX7, rfl⟩
theorem fl_X7_13 : zF RX7 13 7 4 (.array .int) true := ⟨RX7, TX7, 19, tyX7, rfl, inTX7, by decide, mw_984, by decide +kernel, tyX7_ok, nmX7, rfl⟩
theorem fl_X7_22 : zF RX7 22 7 7 (.array .int) true := ⟨RX7, TX7, 19, tyX7, rfl, inTX7, by decide, mw_987, by decide +kernel, tyX7_ok, nmX7, rfl⟩
theorem fl_X7_31 : zF RX7 31 7 11 (.array .boolean) true := ⟨RX7, TX7, 19, tyX7, rfl, inTX7, by decide, mw_991, by decide +kernel, tyX7_ok, nmX7, rfl⟩
theorem fl_X7_117 : zF RX7 117 7 2 .int false := ⟨RX7, TX7, 19, tyX7, rfl, inTX7, by decide, mw_982, by decide +kernel, tyX7_ok, nmX7, rfl⟩
theorem fl_X7_124 : zF RX7 124 7 3 .int false := ⟨RX7, TX7, 19, tyX7, rfl, inTX7, by decide, mw_983, by decide +kernel, tyX7_ok, nmX7, rfl⟩
theorem fl_X7_168 : zF RX7 168 7 9 .int false := ⟨RX7, TX7, 19, tyX7, rfl, inTX7, by decide, mw_989, by decide +kernel, tyX7_ok, nmX7, rfl⟩
theorem ys_X7_clear : yX7_clear.cls ≠ "java/lang/invoke/MethodHandle" ∧ yX7_clear.cls ≠ "java/lang/invoke/VarHandle" ∧ (parseMethodDescriptor yX7_clear.desc).map (fun d => d.parameters.length) = some 3 := by decide +kernel
theorem ys_X7_copyPage : yX7_copyPage.cls ≠ "java/lang/invoke/MethodHandle" ∧ yX7_copyPage.cls ≠ "java/lang/invoke/VarHandle" ∧ (parseMethodDescriptor yX7_copyPage.desc).map (fun d => d.parameters.length) = some 4 := by decide +kernel
theorem yv_X7_digit : yX7_digit.cls = RX7 ∧ yX7_digit.cls ≠ "java/lang/invoke/MethodHandle" ∧ yX7_digit.cls ≠ "java/lang/invoke/VarHandle" ∧ (parseMethodDescriptor yX7_digit.desc).map (fun d => d.parameters.length) = some 2 := by decide +kernel
theorem yv_X7_eat : yX7_eat.cls = RX7 ∧ yX7_eat.cls ≠ "java/lang/invoke/MethodHandle" ∧ yX7_eat.cls ≠ "java/lang/invoke/VarHandle" ∧ (parseMethodDescriptor yX7_eat.desc).map (fun d => d.parameters.length) = some 1 := by decide +kernel
theorem yv_X7_hasAnyRoom : yX7_hasAnyRoom.cls = RX7 ∧ yX7_hasAnyRoom.cls ≠ "java/lang/invoke/MethodHandle" ∧ yX7_hasAnyRoom.cls ≠ "java/lang/invoke/VarHandle" ∧ (parseMethodDescriptor yX7_hasAnyRoom.desc).map (fun d => d.parameters.length) = some 0 := by decide +kernel
theorem yv_X7_hasRoom : yX7_hasRoom.cls = RX7 ∧ yX7_hasRoom.cls ≠ "java/lang/invoke/MethodHandle" ∧ yX7_hasRoom.cls ≠ "java/lang/invoke/VarHandle" ∧ (parseMethodDescriptor yX7_hasRoom.desc).map (fun d => d.parameters.length) = some 1 := by decide +kernel
theorem ys_X7_marksOf : yX7_marksOf.cls ≠ "java/lang/invoke/MethodHandle" ∧ yX7_marksOf.cls ≠ "java/lang/invoke/VarHandle" ∧ (parseMethodDescriptor yX7_marksOf.desc).map (fun d => d.parameters.length) = some 1 := by decide +kernel
theorem ys_X7_penOn : yX7_penOn.cls ≠ "java/lang/invoke/MethodHandle" ∧ yX7_penOn.cls ≠ "java/lang/invoke/VarHandle" ∧ (parseMethodDescriptor yX7_penOn.desc).map (fun d => d.parameters.length) = some 5 := by decide +kernel
theorem yv_X7_readAll : yX7_readAll.cls = RX7 ∧ yX7_readAll.cls ≠ "java/lang/invoke/MethodHandle" ∧ yX7_readAll.cls ≠ "java/lang/invoke/VarHandle" ∧ (parseMethodDescriptor yX7_readAll.desc).map (fun d => d.parameters.length) = some 0 := by decide +kernel
theorem yv_X7_readMark : yX7_readMark.cls = RX7 ∧ yX7_readMark.cls ≠ "java/lang/invoke/MethodHandle" ∧ yX7_readMark.cls ≠ "java/lang/invoke/VarHandle" ∧ (parseMethodDescriptor yX7_readMark.desc).map (fun d => d.parameters.length) = some 0 := by decide +kernel
theorem yv_X7_readNumber : yX7_readNumber.cls = RX7 ∧ yX7_readNumber.cls ≠ "java/lang/invoke/MethodHandle" ∧ yX7_readNumber.cls ≠ "java/lang/invoke/VarHandle" ∧ (parseMethodDescriptor yX7_readNumber.desc).map (fun d => d.parameters.length) = some 3 := by decide +kernel
theorem yv_X7_readPart : yX7_readPart.cls = RX7 ∧ yX7_readPart.cls ≠ "java/lang/invoke/MethodHandle" ∧ yX7_readPart.cls ≠ "java/lang/invoke/VarHandle" ∧ (parseMethodDescriptor yX7_readPart.desc).map (fun d => d.parameters.length) = some 0 := by decide +kernel
theorem yv_X7_readPen : yX7_readPen.cls = RX7 ∧ yX7_readPen.cls ≠ "java/lang/invoke/MethodHandle" ∧ yX7_readPen.cls ≠ "java/lang/invoke/VarHandle" ∧ (parseMethodDescriptor yX7_readPen.desc).map (fun d => d.parameters.length) = some 0 := by decide +kernel
theorem yv_X7_readSign : yX7_readSign.cls = RX7 ∧ yX7_readSign.cls ≠ "java/lang/invoke/MethodHandle" ∧ yX7_readSign.cls ≠ "java/lang/invoke/VarHandle" ∧ (parseMethodDescriptor yX7_readSign.desc).map (fun d => d.parameters.length) = some 0 := by decide +kernel
theorem yv_X7_refused : yX7_refused.cls = RX7 ∧ yX7_refused.cls ≠ "java/lang/invoke/MethodHandle" ∧ yX7_refused.cls ≠ "java/lang/invoke/VarHandle" ∧ (parseMethodDescriptor yX7_refused.desc).map (fun d => d.parameters.length) = some 1 := by decide +kernel
theorem ys_X7_writeOn : yX7_writeOn.cls ≠ "java/lang/invoke/MethodHandle" ∧ yX7_writeOn.cls ≠ "java/lang/invoke/VarHandle" ∧ (parseMethodDescriptor yX7_writeOn.desc).map (fun d => d.parameters.length) = some 5 := by decide +kernel
theorem cw_X7_50 : GoodIn TW (va_wsS RX7 50 yX7_clear (.code yX7_clear cX7_clear 4 none :: TW)) := zGS mw_977 mw_978 mw_54 mw_979
theorem cw_X7_107 : GoodIn TW (va_wsS RX7 107 yX7_copyPage (.code yX7_copyPage cX7_copyPage 5 none :: TW)) := zGS mw_1121 mw_1122 mw_54 mw_1123
theorem cw_X7_111 : GoodIn TW (va_wsS RX7 111 yX7_penOn (.code yX7_penOn cX7_penOn 5 none :: TW)) := zGS mw_1114 mw_1115 mw_54 mw_1116
theorem cw_X7_120 : GoodIn TW (wsV RX7 120 RX7 yX7_refused (.code yX7_refused cX7_refused 2 (some .boolean) :: TW)) := zGV mw_1051 mw_1053 mw_26 mw_54 mw_1054
theorem cw_X7_129 : GoodIn TW (wsV RX7 129 RX7 yX7_eat (.code yX7_eat cX7_eat 3 (some .boolean) :: TW)) := zGV mw_1067 mw_1069 mw_28 mw_54 mw_1070
theorem cw_X7_134 : GoodIn TW (wsV RX7 134 RX7 yX7_hasRoom (.code yX7_hasRoom cX7_hasRoom 4 (some .boolean) :: TW)) := zGV mw_1084 mw_1086 mw_32 mw_54 mw_1087
theorem cw_X7_137 : GoodIn TW (wsV RX7 137 RX7 yX7_digit (.code yX7_digit cX7_digit 5 (some .int) :: TW)) := zGV mw_1071 mw_1073 mw_29 mw_54 mw_1074
theorem cw_X7_140 : GoodIn TW (wsV RX7 140 RX7 yX7_readSign (.code yX7_readSign cX7_readSign 3 (some .int) :: TW)) := zGV mw_1095 mw_1097 mw_34 mw_54 mw_1098
theorem cw_X7_144 : GoodIn TW (va_wsS RX7 144 yX7_writeOn (.code yX7_writeOn cX7_writeOn 6 (some .int) :: TW)) := zGS mw_1100 mw_1101 mw_54 mw_1102
theorem cw_X7_148 : GoodIn TW (wsV RX7 148 RX7 yX7_hasAnyRoom (.code yX7_hasAnyRoom cX7_hasAnyRoom 3 (some .boolean) :: TW)) := zGV mw_1080 mw_1082 mw_31 mw_54 mw_1083
theorem cw_X7_152 : GoodIn TW (wsV RX7 152 RX7 yX7_readMark (.code yX7_readMark cX7_readMark 6 (some .boolean) :: TW)) := zGV mw_1091 mw_1093 mw_33 mw_54 mw_1094
theorem cw_X7_155 : GoodIn TW (wsV RX7 155 RX7 yX7_readNumber (.code yX7_readNumber cX7_readNumber 5 (some .boolean) :: TW)) := zGV mw_1106 mw_1108 mw_35 mw_54 mw_1109
theorem cw_X7_159 : GoodIn TW (wsV RX7 159 RX7 yX7_readPen (.code yX7_readPen cX7_readPen 5 (some .boolean) :: TW)) := zGV mw_1110 mw_1112 mw_36 mw_54 mw_1113
theorem cw_X7_162 : GoodIn TW (wsV RX7 162 RX7 yX7_readPart (.code yX7_readPart cX7_readPart 1 (some .boolean) :: TW)) := zGV mw_1076 mw_1078 mw_30 mw_54 mw_1079
theorem cw_X7_165 : GoodIn TW (wsV RX7 165 RX7 yX7_readAll (.code yX7_readAll cX7_readAll 3 (some .boolean) :: TW)) := zGV mw_1063 mw_1065 mw_27 mw_54 mw_1066
theorem cw_X7_171 : GoodIn TW (va_wsS RX7 171 yX7_marksOf (.code yX7_marksOf cX7_marksOf 3 (some .int) :: TW)) := zGS mw_1124 mw_1125 mw_54 mw_1126
theorem dX7_canDecide_0 : decode cX7_canDecide 0 = .ok (.iload_n 3, 1) := by decide +kernel
theorem dX7_canDecide_1 : decode cX7_canDecide 1 = .ok (.iconst 2, 1) := by decide +kernel
theorem dX7_canDecide_2 : decode cX7_canDecide 2 = .ok (.if_icmp .eq 25, 3) := by decide +kernel
theorem dX7_canDecide_5 : decode cX7_canDecide 5 = .ok (.aload_n 0, 1) := by decide +kernel
theorem dX7_canDecide_6 : decode cX7_canDecide 6 = .ok (.iload_n 1, 1) := by decide +kernel
theorem dX7_canDecide_7 : decode cX7_canDecide 7 = .ok (.iaload, 1) := by decide +kernel
theorem dX7_canDecide_8 : decode cX7_canDecide 8 = .ok (.iconst 1, 1) := by decide +kernel
theorem dX7_canDecide_9 : decode cX7_canDecide 9 = .ok (.if_icmp .eq 18, 3) := by decide +kernel
theorem dX7_canDecide_12 : decode cX7_canDecide 12 = .ok (.aload_n 0, 1) := by decide +kernel
theorem dX7_canDecide_13 : decode cX7_canDecide 13 = .ok (.iload_n 1, 1) := by decide +kernel
theorem dX7_canDecide_14 : decode cX7_canDecide 14 = .ok (.iconst 1, 1) := by decide +kernel
theorem dX7_canDecide_15 : decode cX7_canDecide 15 = .ok (.iload_n 2, 1) := by decide +kernel
theorem dX7_canDecide_16 : decode cX7_canDecide 16 = .ok (.isub, 1) := by decide +kernel
theorem dX7_canDecide_17 : decode cX7_canDecide 17 = .ok (.invokestatic 73, 3) := by decide +kernel
theorem dX7_canDecide_20 : decode cX7_canDecide 20 = .ok (.iconst 3, 1) := by decide +kernel
theorem dX7_canDecide_21 : decode cX7_canDecide 21 = .ok (.iadd, 1) := by decide +kernel
theorem dX7_canDecide_22 : decode cX7_canDecide 22 = .ok (.iaload, 1) := by decide +kernel
theorem dX7_canDecide_23 : decode cX7_canDecide 23 = .ok (.iload_n 3, 1) := by decide +kernel
theorem dX7_canDecide_24 : decode cX7_canDecide 24 = .ok (.if_icmp .eq 7, 3) := by decide +kernel
theorem dX7_canDecide_27 : decode cX7_canDecide 27 = .ok (.iconst 1, 1) := by decide +kernel
theorem dX7_canDecide_28 : decode cX7_canDecide 28 = .ok (.goto 4, 3) := by decide +kernel
theorem dX7_canDecide_31 : decode cX7_canDecide 31 = .ok (.iconst 0, 1) := by decide +kernel
theorem dX7_canDecide_32 : decode cX7_canDecide 32 = .ok (.ireturn, 1) := by decide +kernel
def FX7_canDecide (T : zT) (p0 : Nat) (p1 : Int32) (p2 : Int32) (p3 : Int32) (h : zH) : Option Int32 := zJ (fun (x1 : Int32) => if x1 = 0 ∨ x1 = 1 then some x1 else none) (fun J2 => zJ (fun (u9 : Unit) => J2 1) (fun J3 => if p3 = 2 then (J3 ()) else ((zai T h p0 p1).bind fun x4 => if x4 = 1 then (J3 ()) else ((FX7_markAt T p1 (1 - p2) h).bind fun x6 => (zai T h p0 (x6 + 3)).bind fun x7 => if x7 = p3 then (J2 0) else (J3 ())))))
set_option maxHeartbeats 4000000 in
set_option maxRecDepth 100000 in
theorem BX7_canDecide {X : zX} (C : zC X cX7_canDecide 4 RX7 "canDecide" (some .boolean) 1 21) {al : Bool} {hi : Nat} {h : zH} {p0 : Nat} {p1 : Int32} {p2 : Int32} {p3 : Int32} {r9 : Int32} (hf : FX7_canDecide (xT X) p0 p1 p2 p3 h = some r9) : zW X 4 (zZ X al (some (.int r9), hi, h)) 0 0 al hi h 0 [(0, .ref p0), (1, .int p1), (2, .int p2), (3, .int p3)] [] := by
  unfold FX7_canDecide at hf
  refine z_join (P := fun J => ∀ (x1 : Int32), J x1 = some r9 → zW X 4 (zZ X al (some (.int r9), hi, h)) 0 0 al hi h 32 [] [.int x1]) hf ?_ ?_
  · intro x1 hf
    refine z_ite hf (fun c hf => ?_) (fun c hf => nomatch hf)
    exact z_zreturn C dX7_canDecide_32 c (by cases hf; rfl)
  · intro J2 kJ2 hf
    refine z_join (P := fun J => ∀ (u9 : Unit), J u9 = some r9 → zW X 4 (zZ X al (some (.int r9), hi, h)) 0 0 al hi h 27 [] []) hf ?_ ?_
    · intro u9 hf
      refine z_iconst C (v := 1) dX7_canDecide_27 (by decide) ?_
      refine z_goto (tgt := 32) C dX7_canDecide_28 (by decide) ?_
      exact kJ2 _ hf
    · intro J3 kJ3 hf
      refine z_iload_n C dX7_canDecide_0 3 rfl rfl ?_
      refine z_iconst C (v := 2) dX7_canDecide_1 (by decide) ?_
      refine z_icmp_eq (tgt := 27) C dX7_canDecide_2 (by decide) hf (fun hf => ?_) (fun hf => ?_)
      · refine z_sub [] rfl ?_
        exact kJ3 _ hf
      · refine z_aload_n C dX7_canDecide_5 0 rfl rfl ?_
        refine z_iload_n C dX7_canDecide_6 1 rfl rfl ?_
        refine z_iaload C dX7_canDecide_7 hf (fun x4 hf => ?_)
        refine z_iconst C (v := 1) dX7_canDecide_8 (by decide) ?_
        refine z_icmp_eq (tgt := 27) C dX7_canDecide_9 (by decide) hf (fun hf => ?_) (fun hf => ?_)
        · refine z_sub [] rfl ?_
          exact kJ3 _ hf
        · refine z_aload_n C dX7_canDecide_12 0 rfl rfl ?_
          refine z_iload_n C dX7_canDecide_13 1 rfl rfl ?_
          refine z_iconst C (v := 1) dX7_canDecide_14 (by decide) ?_
          refine z_iload_n C dX7_canDecide_15 2 rfl rfl ?_
          refine z_isub C dX7_canDecide_16 ?_
          obtain ⟨x6, g5, hf⟩ := zbind hf
          refine z_callS (kc' := 0) (ks' := 0) C (MX7_markAt (xl X) (xD X) (xT X) (xlo X) al hi g5) cw_X7_73 ys_X7_markAt dX7_canDecide_17 rfl (by decide) ⟨rfl, rfl⟩ (Nat.le_of_ble_eq_true rfl) (st := [.ref p0]) rfl ?_
          refine z_iconst C (v := 3) dX7_canDecide_20 (by decide) ?_
          refine z_iadd C dX7_canDecide_21 ?_
          refine z_iaload C dX7_canDecide_22 hf (fun x7 hf => ?_)
          refine z_iload_n C dX7_canDecide_23 3 rfl rfl ?_
          refine z_icmp_eq (tgt := 31) C dX7_canDecide_24 (by decide) hf (fun hf => ?_) (fun hf => ?_)
          · refine z_iconst C (v := 0) dX7_canDecide_31 (by decide) ?_
            refine z_sub [] rfl ?_
            exact kJ2 _ hf
          · refine z_sub [] rfl ?_
            exact kJ3 _ hf
theorem MX7_canDecide (l : Launch) (D : va_G) (T : zT) (lo : Nat) (al : Bool) (hi : Nat) {h : zH} {p0 : Nat} {p1 : Int32} {p2 : Int32} {p3 : Int32} {v9 : Int32} (hf : FX7_canDecide T p0 p1 p2 p3 h = some v9) : zM l yX7_canDecide (.code yX7_canDecide cX7_canDecide 4 (some .boolean) :: TW) ({ frames := 1, cells := 0, slots := 0, locals := 21 } : Room) D T lo al [.ref p0, .int p1, .int p2, .int p3] hi h (some (.int v9), hi, h) :=
  z_enter (own := RX7) (nm := "canDecide") (lv := [(0, .ref p0), (1, .int p1), (2, .int p2), (3, .int p3)]) (by decide +kernel) rfl rfl (Nat.le_of_ble_eq_true rfl) rfl (fun _ _ _ _ _ _ _ _ C => BX7_canDecide C hf)
theorem dX7_decideOn_0 : decode cX7_decideOn 0 = .ok (.aload_n 0, 1) := by decide +kernel
theorem dX7_decideOn_1 : decode cX7_decideOn 1 = .ok (.iload_n 1, 1) := by decide +kernel
theorem dX7_decideOn_2 : decode cX7_decideOn 2 = .ok (.iload_n 2, 1) := by decide +kernel
theorem dX7_decideOn_3 : decode cX7_decideOn 3 = .ok (.invokestatic 73, 3) := by decide +kernel
theorem dX7_decideOn_6 : decode cX7_decideOn 6 = .ok (.iconst 3, 1) := by decide +kernel
theorem dX7_decideOn_7 : decode cX7_decideOn 7 = .ok (.iadd, 1) := by decide +kernel
theorem dX7_decideOn_8 : decode cX7_decideOn 8 = .ok (.iload_n 3, 1) := by decide +kernel
theorem dX7_decideOn_9 : decode cX7_decideOn 9 = .ok (.iconst 2, 1) := by decide +kernel
theorem dX7_decideOn_10 : decode cX7_decideOn 10 = .ok (.if_icmp .ne 8, 3) := by decide +kernel
theorem dX7_decideOn_13 : decode cX7_decideOn 13 = .ok (.bipush (-9), 2) := by decide +kernel
theorem dX7_decideOn_15 : decode cX7_decideOn 15 = .ok (.goto 4, 3) := by decide +kernel
theorem dX7_decideOn_18 : decode cX7_decideOn 18 = .ok (.iload_n 3, 1) := by decide +kernel
theorem dX7_decideOn_19 : decode cX7_decideOn 19 = .ok (.iastore, 1) := by decide +kernel
theorem dX7_decideOn_20 : decode cX7_decideOn 20 = .ok (.return_, 1) := by decide +kernel
def FX7_decideOn (T : zT) (p0 : Nat) (p1 : Int32) (p2 : Int32) (p3 : Int32) (h : zH) : Option zH := zJ (fun (x1 : Int32) (x2 : Int32) (x3 : Nat) => (zas T h x3 x2 x1).bind fun h5 => some h5) (fun J4 => (FX7_markAt T p1 p2 h).bind fun x7 => if p3 = 2 then (J4 (-9 : Int32) (x7 + 3) p0) else (J4 p3 (x7 + 3) p0))
set_option maxHeartbeats 4000000 in
set_option maxRecDepth 100000 in
theorem BX7_decideOn {X : zX} (C : zC X cX7_decideOn 4 RX7 "decideOn" none 1 21) {al : Bool} {hi : Nat} {h : zH} {p0 : Nat} {p1 : Int32} {p2 : Int32} {p3 : Int32} {r9 : zH} (hf : FX7_decideOn (xT X) p0 p1 p2 p3 h = some r9) : zW X 4 (zZ X al (none, hi, r9)) 0 0 al hi h 0 [(0, .ref p0), (1, .int p1), (2, .int p2), (3, .int p3)] [] := by
  unfold FX7_decideOn at hf
  refine z_join (P := fun J => ∀ (x1 : Int32) (x2 : Int32) (x3 : Nat), J x1 x2 x3 = some r9 → zW X 4 (zZ X al (none, hi, r9)) 0 0 al hi h 19 [] [.int x1, .int x2, .ref x3]) hf ?_ ?_
  · intro x1 x2 x3 hf
    refine z_iastore C dX7_decideOn_19 hf (fun h5 hf => ?_)
    exact z_vreturn C dX7_decideOn_20 (by cases hf; rfl)
  · intro J4 kJ4 hf
    refine z_aload_n C dX7_decideOn_0 0 rfl rfl ?_
    refine z_iload_n C dX7_decideOn_1 1 rfl rfl ?_
    refine z_iload_n C dX7_decideOn_2 2 rfl rfl ?_
    obtain ⟨x7, g6, hf⟩ := zbind hf
    refine z_callS (kc' := 0) (ks' := 0) C (MX7_markAt (xl X) (xD X) (xT X) (xlo X) al hi g6) cw_X7_73 ys_X7_markAt dX7_decideOn_3 rfl (by decide) ⟨rfl, rfl⟩ (Nat.le_of_ble_eq_true rfl) (st := [.ref p0]) rfl ?_
    refine z_iconst C (v := 3) dX7_decideOn_6 (by decide) ?_
    refine z_iadd C dX7_decideOn_7 ?_
    refine z_iload_n C dX7_decideOn_8 3 rfl rfl ?_
    refine z_iconst C (v := 2) dX7_decideOn_9 (by decide) ?_
    refine z_icmp_ne (tgt := 18) C dX7_decideOn_10 (by decide) hf (fun hf => ?_) (fun hf => ?_)
    · refine z_iload_n C dX7_decideOn_18 3 rfl rfl ?_
      refine z_sub [] rfl ?_
      exact kJ4 _ _ _ hf
    · refine z_bipush C (v := (-9 : Int32)) dX7_decideOn_13 (by decide) ?_
      refine z_goto (tgt := 19) C dX7_decideOn_15 (by decide) ?_
      refine z_sub [] rfl ?_
      exact kJ4 _ _ _ hf
theorem MX7_decideOn (l : Launch) (D : va_G) (T : zT) (lo : Nat) (al : Bool) (hi : Nat) {h : zH} {p0 : Nat} {p1 : Int32} {p2 : Int32} {p3 : Int32} {h9 : zH} (hf : FX7_decideOn T p0 p1 p2 p3 h = some h9) : zM l yX7_decideOn (.code yX7_decideOn cX7_decideOn 4 none :: TW) ({ frames := 1, cells := 0, slots := 0, locals := 21 } : Room) D T lo al [.ref p0, .int p1, .int p2, .int p3] hi h (none, hi, h9) :=
  z_enter (own := RX7) (nm := "decideOn") (lv := [(0, .ref p0), (1, .int p1), (2, .int p2), (3, .int p3)]) (by decide +kernel) rfl rfl (Nat.le_of_ble_eq_true rfl) rfl (fun _ _ _ _ _ _ _ _ C => BX7_decideOn C hf)
theorem dX7_penOn_0 : decode cX7_penOn 0 = .ok (.aload_n 0, 1) := by decide +kernel
theorem dX7_penOn_1 : decode cX7_penOn 1 = .ok (.iconst 4, 1) := by decide +kernel
theorem dX7_penOn_2 : decode cX7_penOn 2 = .ok (.iconst 3, 1) := by decide +kernel
theorem dX7_penOn_3 : decode cX7_penOn 3 = .ok (.iload_n 1, 1) := by decide +kernel
theorem dX7_penOn_4 : decode cX7_penOn 4 = .ok (.imul, 1) := by decide +kernel
theorem dX7_penOn_5 : decode cX7_penOn 5 = .ok (.iadd, 1) := by decide +kernel
theorem dX7_penOn_6 : decode cX7_penOn 6 = .ok (.iload_n 2, 1) := by decide +kernel
theorem dX7_penOn_7 : decode cX7_penOn 7 = .ok (.iastore, 1) := by decide +kernel
theorem dX7_penOn_8 : decode cX7_penOn 8 = .ok (.aload_n 0, 1) := by decide +kernel
theorem dX7_penOn_9 : decode cX7_penOn 9 = .ok (.iconst 4, 1) := by decide +kernel
theorem dX7_penOn_10 : decode cX7_penOn 10 = .ok (.iconst 3, 1) := by decide +kernel
theorem dX7_penOn_11 : decode cX7_penOn 11 = .ok (.iload_n 1, 1) := by decide +kernel
theorem dX7_penOn_12 : decode cX7_penOn 12 = .ok (.imul, 1) := by decide +kernel
theorem dX7_penOn_13 : decode cX7_penOn 13 = .ok (.iadd, 1) := by decide +kernel
theorem dX7_penOn_14 : decode cX7_penOn 14 = .ok (.iconst 1, 1) := by decide +kernel
theorem dX7_penOn_15 : decode cX7_penOn 15 = .ok (.iadd, 1) := by decide +kernel
theorem dX7_penOn_16 : decode cX7_penOn 16 = .ok (.iload_n 3, 1) := by decide +kernel
theorem dX7_penOn_17 : decode cX7_penOn 17 = .ok (.iastore, 1) := by decide +kernel
theorem dX7_penOn_18 : decode cX7_penOn 18 = .ok (.aload_n 0, 1) := by decide +kernel
theorem dX7_penOn_19 : decode cX7_penOn 19 = .ok (.iconst 4, 1) := by decide +kernel
theorem dX7_penOn_20 : decode cX7_penOn 20 = .ok (.iconst 3, 1) := by decide +kernel
theorem dX7_penOn_21 : decode cX7_penOn 21 = .ok (.iload_n 1, 1) := by decide +kernel
theorem dX7_penOn_22 : decode cX7_penOn 22 = .ok (.imul, 1) := by decide +kernel
theorem dX7_penOn_23 : decode cX7_penOn 23 = .ok (.iadd, 1) := by decide +kernel
theorem dX7_penOn_24 : decode cX7_penOn 24 = .ok (.iconst 2, 1) := by decide +kernel
theorem dX7_penOn_25 : decode cX7_penOn 25 = .ok (.iadd, 1) := by decide +kernel
theorem dX7_penOn_26 : decode cX7_penOn 26 = .ok (.iload 4, 2) := by decide +kernel
theorem dX7_penOn_28 : decode cX7_penOn 28 = .ok (.iastore, 1) := by decide +kernel
theorem dX7_penOn_29 : decode cX7_penOn 29 = .ok (.return_, 1) := by decide +kernel
def FX7_penOn (T : zT) (p0 : Nat) (p1 : Int32) (p2 : Int32) (p3 : Int32) (p4 : Int32) (h : zH) : Option zH := (zas T h p0 (4 + (3 * p1)) p2).bind fun h1 => (zas T h1 p0 ((4 + (3 * p1)) + 1) p3).bind fun h2 => (zas T h2 p0 ((4 + (3 * p1)) + 2) p4).bind fun h3 => some h3
set_option maxHeartbeats 4000000 in
set_option maxRecDepth 100000 in
theorem BX7_penOn {X : zX} (C : zC X cX7_penOn 5 RX7 "penOn" none 0 0) {al : Bool} {hi : Nat} {h : zH} {p0 : Nat} {p1 : Int32} {p2 : Int32} {p3 : Int32} {p4 : Int32} {r9 : zH} (hf : FX7_penOn (xT X) p0 p1 p2 p3 p4 h = some r9) : zW X 5 (zZ X al (none, hi, r9)) 0 0 al hi h 0 [(0, .ref p0), (1, .int p1), (2, .int p2), (3, .int p3), (4, .int p4)] [] := by
  unfold FX7_penOn at hf
  refine z_aload_n C dX7_penOn_0 0 rfl rfl ?_
  refine z_iconst C (v := 4) dX7_penOn_1 (by decide) ?_
  refine z_iconst C (v := 3) dX7_penOn_2 (by decide) ?_
  refine z_iload_n C dX7_penOn_3 1 rfl rfl ?_
  refine z_imul C dX7_penOn_4 ?_
  refine z_iadd C dX7_penOn_5 ?_
  refine z_iload_n C dX7_penOn_6 2 rfl rfl ?_
  refine z_iastore C dX7_penOn_7 hf (fun h1 hf => ?_)
  refine z_aload_n C dX7_penOn_8 0 rfl rfl ?_
  refine z_iconst C (v := 4) dX7_penOn_9 (by decide) ?_
  refine z_iconst C (v := 3) dX7_penOn_10 (by decide) ?_
  refine z_iload_n C dX7_penOn_11 1 rfl rfl ?_
  refine z_imul C dX7_penOn_12 ?_
  refine z_iadd C dX7_penOn_13 ?_
  refine z_iconst C (v := 1) dX7_penOn_14 (by decide) ?_
  refine z_iadd C dX7_penOn_15 ?_
  refine z_iload_n C dX7_penOn_16 3 rfl rfl ?_
  refine z_iastore C dX7_penOn_17 hf (fun h2 hf => ?_)
  refine z_aload_n C dX7_penOn_18 0 rfl rfl ?_
  refine z_iconst C (v := 4) dX7_penOn_19 (by decide) ?_
  refine z_iconst C (v := 3) dX7_penOn_20 (by decide) ?_
  refine z_iload_n C dX7_penOn_21 1 rfl rfl ?_
  refine z_imul C dX7_penOn_22 ?_
  refine z_iadd C dX7_penOn_23 ?_
  refine z_iconst C (v := 2) dX7_penOn_24 (by decide) ?_
  refine z_iadd C dX7_penOn_25 ?_
  refine z_iload C dX7_penOn_26 4 rfl ?_
  refine z_iastore C dX7_penOn_28 hf (fun h3 hf => ?_)
  exact z_vreturn C dX7_penOn_29 (by cases hf; rfl)
theorem MX7_penOn (l : Launch) (D : va_G) (T : zT) (lo : Nat) (al : Bool) (hi : Nat) {h : zH} {p0 : Nat} {p1 : Int32} {p2 : Int32} {p3 : Int32} {p4 : Int32} {h9 : zH} (hf : FX7_penOn T p0 p1 p2 p3 p4 h = some h9) : zM l yX7_penOn (.code yX7_penOn cX7_penOn 5 none :: TW) ({ frames := 0, cells := 0, slots := 0, locals := 0 } : Room) D T lo al [.ref p0, .int p1, .int p2, .int p3, .int p4] hi h (none, hi, h9) :=
  z_enter (own := RX7) (nm := "penOn") (lv := [(0, .ref p0), (1, .int p1), (2, .int p2), (3, .int p3), (4, .int p4)]) (by decide +kernel) rfl rfl (Nat.le_of_ble_eq_true rfl) rfl (fun _ _ _ _ _ _ _ _ C => BX7_penOn C hf)
theorem dX7_turnOn_0 : decode cX7_turnOn 0 = .ok (.aload_n 1, 1) := by decide +kernel
theorem dX7_turnOn_1 : decode cX7_turnOn 1 = .ok (.iconst 0, 1) := by decide +kernel
theorem dX7_turnOn_2 : decode cX7_turnOn 2 = .ok (.aload_n 0, 1) := by decide +kernel
theorem dX7_turnOn_3 : decode cX7_turnOn 3 = .ok (.getfield 22, 3) := by decide +kernel
theorem dX7_turnOn_6 : decode cX7_turnOn 6 = .ok (.iconst 0, 1) := by decide +kernel
theorem dX7_turnOn_7 : decode cX7_turnOn 7 = .ok (.invokestatic 107, 3) := by decide +kernel
theorem dX7_turnOn_10 : decode cX7_turnOn 10 = .ok (.bipush 10, 2) := by decide +kernel
theorem dX7_turnOn_12 : decode cX7_turnOn 12 = .ok (.istore_n 2, 1) := by decide +kernel
theorem dX7_turnOn_13 : decode cX7_turnOn 13 = .ok (.iload_n 2, 1) := by decide +kernel
theorem dX7_turnOn_14 : decode cX7_turnOn 14 = .ok (.sipush 739, 3) := by decide +kernel
theorem dX7_turnOn_17 : decode cX7_turnOn 17 = .ok (.if_icmp .ge 13, 3) := by decide +kernel
theorem dX7_turnOn_20 : decode cX7_turnOn 20 = .ok (.aload_n 1, 1) := by decide +kernel
theorem dX7_turnOn_21 : decode cX7_turnOn 21 = .ok (.iload_n 2, 1) := by decide +kernel
theorem dX7_turnOn_22 : decode cX7_turnOn 22 = .ok (.iconst 0, 1) := by decide +kernel
theorem dX7_turnOn_23 : decode cX7_turnOn 23 = .ok (.iastore, 1) := by decide +kernel
theorem dX7_turnOn_24 : decode cX7_turnOn 24 = .ok (.iinc 2 1, 3) := by decide +kernel
theorem dX7_turnOn_27 : decode cX7_turnOn 27 = .ok (.goto (-14), 3) := by decide +kernel
theorem dX7_turnOn_30 : decode cX7_turnOn 30 = .ok (.aload_n 1, 1) := by decide +kernel
theorem dX7_turnOn_31 : decode cX7_turnOn 31 = .ok (.iconst 0, 1) := by decide +kernel
theorem dX7_turnOn_32 : decode cX7_turnOn 32 = .ok (.aload_n 0, 1) := by decide +kernel
theorem dX7_turnOn_33 : decode cX7_turnOn 33 = .ok (.getfield 22, 3) := by decide +kernel
theorem dX7_turnOn_36 : decode cX7_turnOn 36 = .ok (.iconst 1, 1) := by decide +kernel
theorem dX7_turnOn_37 : decode cX7_turnOn 37 = .ok (.iaload, 1) := by decide +kernel
theorem dX7_turnOn_38 : decode cX7_turnOn 38 = .ok (.iastore, 1) := by decide +kernel
theorem dX7_turnOn_39 : decode cX7_turnOn 39 = .ok (.aload_n 1, 1) := by decide +kernel
theorem dX7_turnOn_40 : decode cX7_turnOn 40 = .ok (.iconst 1, 1) := by decide +kernel
theorem dX7_turnOn_41 : decode cX7_turnOn 41 = .ok (.aload_n 0, 1) := by decide +kernel
theorem dX7_turnOn_42 : decode cX7_turnOn 42 = .ok (.getfield 22, 3) := by decide +kernel
theorem dX7_turnOn_45 : decode cX7_turnOn 45 = .ok (.iconst 0, 1) := by decide +kernel
theorem dX7_turnOn_46 : decode cX7_turnOn 46 = .ok (.iaload, 1) := by decide +kernel
theorem dX7_turnOn_47 : decode cX7_turnOn 47 = .ok (.iastore, 1) := by decide +kernel
theorem dX7_turnOn_48 : decode cX7_turnOn 48 = .ok (.iconst 0, 1) := by decide +kernel
theorem dX7_turnOn_49 : decode cX7_turnOn 49 = .ok (.istore_n 2, 1) := by decide +kernel
theorem dX7_turnOn_50 : decode cX7_turnOn 50 = .ok (.iload_n 2, 1) := by decide +kernel
theorem dX7_turnOn_51 : decode cX7_turnOn 51 = .ok (.iconst 2, 1) := by decide +kernel
theorem dX7_turnOn_52 : decode cX7_turnOn 52 = .ok (.if_icmp .ge 53, 3) := by decide +kernel
theorem dX7_turnOn_55 : decode cX7_turnOn 55 = .ok (.aload_n 1, 1) := by decide +kernel
theorem dX7_turnOn_56 : decode cX7_turnOn 56 = .ok (.iload_n 2, 1) := by decide +kernel
theorem dX7_turnOn_57 : decode cX7_turnOn 57 = .ok (.aload_n 0, 1) := by decide +kernel
theorem dX7_turnOn_58 : decode cX7_turnOn 58 = .ok (.getfield 22, 3) := by decide +kernel
theorem dX7_turnOn_61 : decode cX7_turnOn 61 = .ok (.iconst 4, 1) := by decide +kernel
theorem dX7_turnOn_62 : decode cX7_turnOn 62 = .ok (.iconst 3, 1) := by decide +kernel
theorem dX7_turnOn_63 : decode cX7_turnOn 63 = .ok (.iload_n 2, 1) := by decide +kernel
theorem dX7_turnOn_64 : decode cX7_turnOn 64 = .ok (.imul, 1) := by decide +kernel
theorem dX7_turnOn_65 : decode cX7_turnOn 65 = .ok (.iadd, 1) := by decide +kernel
theorem dX7_turnOn_66 : decode cX7_turnOn 66 = .ok (.iaload, 1) := by decide +kernel
theorem dX7_turnOn_67 : decode cX7_turnOn 67 = .ok (.bipush 8, 2) := by decide +kernel
theorem dX7_turnOn_69 : decode cX7_turnOn 69 = .ok (.aload_n 0, 1) := by decide +kernel
theorem dX7_turnOn_70 : decode cX7_turnOn 70 = .ok (.getfield 22, 3) := by decide +kernel
theorem dX7_turnOn_73 : decode cX7_turnOn 73 = .ok (.iconst 4, 1) := by decide +kernel
theorem dX7_turnOn_74 : decode cX7_turnOn 74 = .ok (.iconst 3, 1) := by decide +kernel
theorem dX7_turnOn_75 : decode cX7_turnOn 75 = .ok (.iload_n 2, 1) := by decide +kernel
theorem dX7_turnOn_76 : decode cX7_turnOn 76 = .ok (.imul, 1) := by decide +kernel
theorem dX7_turnOn_77 : decode cX7_turnOn 77 = .ok (.iadd, 1) := by decide +kernel
theorem dX7_turnOn_78 : decode cX7_turnOn 78 = .ok (.iconst 1, 1) := by decide +kernel
theorem dX7_turnOn_79 : decode cX7_turnOn 79 = .ok (.iadd, 1) := by decide +kernel
theorem dX7_turnOn_80 : decode cX7_turnOn 80 = .ok (.iaload, 1) := by decide +kernel
theorem dX7_turnOn_81 : decode cX7_turnOn 81 = .ok (.isub, 1) := by decide +kernel
theorem dX7_turnOn_82 : decode cX7_turnOn 82 = .ok (.iconst 1, 1) := by decide +kernel
theorem dX7_turnOn_83 : decode cX7_turnOn 83 = .ok (.aload_n 0, 1) := by decide +kernel
theorem dX7_turnOn_84 : decode cX7_turnOn 84 = .ok (.getfield 22, 3) := by decide +kernel
theorem dX7_turnOn_87 : decode cX7_turnOn 87 = .ok (.iconst 4, 1) := by decide +kernel
theorem dX7_turnOn_88 : decode cX7_turnOn 88 = .ok (.iconst 3, 1) := by decide +kernel
theorem dX7_turnOn_89 : decode cX7_turnOn 89 = .ok (.iload_n 2, 1) := by decide +kernel
theorem dX7_turnOn_90 : decode cX7_turnOn 90 = .ok (.imul, 1) := by decide +kernel
theorem dX7_turnOn_91 : decode cX7_turnOn 91 = .ok (.iadd, 1) := by decide +kernel
theorem dX7_turnOn_92 : decode cX7_turnOn 92 = .ok (.iconst 2, 1) := by decide +kernel
theorem dX7_turnOn_93 : decode cX7_turnOn 93 = .ok (.iadd, 1) := by decide +kernel
theorem dX7_turnOn_94 : decode cX7_turnOn 94 = .ok (.iaload, 1) := by decide +kernel
theorem dX7_turnOn_95 : decode cX7_turnOn 95 = .ok (.isub, 1) := by decide +kernel
theorem dX7_turnOn_96 : decode cX7_turnOn 96 = .ok (.invokestatic 111, 3) := by decide +kernel
theorem dX7_turnOn_99 : decode cX7_turnOn 99 = .ok (.iinc 2 1, 3) := by decide +kernel
theorem dX7_turnOn_102 : decode cX7_turnOn 102 = .ok (.goto (-52), 3) := by decide +kernel
theorem dX7_turnOn_105 : decode cX7_turnOn 105 = .ok (.iconst 0, 1) := by decide +kernel
theorem dX7_turnOn_106 : decode cX7_turnOn 106 = .ok (.istore_n 2, 1) := by decide +kernel
theorem dX7_turnOn_107 : decode cX7_turnOn 107 = .ok (.iload_n 2, 1) := by decide +kernel
theorem dX7_turnOn_108 : decode cX7_turnOn 108 = .ok (.aload_n 0, 1) := by decide +kernel
theorem dX7_turnOn_109 : decode cX7_turnOn 109 = .ok (.getfield 22, 3) := by decide +kernel
theorem dX7_turnOn_112 : decode cX7_turnOn 112 = .ok (.iconst 1, 1) := by decide +kernel
theorem dX7_turnOn_113 : decode cX7_turnOn 113 = .ok (.iaload, 1) := by decide +kernel
theorem dX7_turnOn_114 : decode cX7_turnOn 114 = .ok (.if_icmp .ge 126, 3) := by decide +kernel
theorem dX7_turnOn_117 : decode cX7_turnOn 117 = .ok (.iconst 0, 1) := by decide +kernel
theorem dX7_turnOn_118 : decode cX7_turnOn 118 = .ok (.istore_n 3, 1) := by decide +kernel
theorem dX7_turnOn_119 : decode cX7_turnOn 119 = .ok (.iload_n 3, 1) := by decide +kernel
theorem dX7_turnOn_120 : decode cX7_turnOn 120 = .ok (.aload_n 0, 1) := by decide +kernel
theorem dX7_turnOn_121 : decode cX7_turnOn 121 = .ok (.getfield 22, 3) := by decide +kernel
theorem dX7_turnOn_124 : decode cX7_turnOn 124 = .ok (.iconst 0, 1) := by decide +kernel
theorem dX7_turnOn_125 : decode cX7_turnOn 125 = .ok (.iaload, 1) := by decide +kernel
theorem dX7_turnOn_126 : decode cX7_turnOn 126 = .ok (.if_icmp .ge 108, 3) := by decide +kernel
theorem dX7_turnOn_129 : decode cX7_turnOn 129 = .ok (.iload_n 3, 1) := by decide +kernel
theorem dX7_turnOn_130 : decode cX7_turnOn 130 = .ok (.iload_n 2, 1) := by decide +kernel
theorem dX7_turnOn_131 : decode cX7_turnOn 131 = .ok (.invokestatic 66, 3) := by decide +kernel
theorem dX7_turnOn_134 : decode cX7_turnOn 134 = .ok (.istore 4, 2) := by decide +kernel
theorem dX7_turnOn_136 : decode cX7_turnOn 136 = .ok (.aload_n 0, 1) := by decide +kernel
theorem dX7_turnOn_137 : decode cX7_turnOn 137 = .ok (.getfield 22, 3) := by decide +kernel
theorem dX7_turnOn_140 : decode cX7_turnOn 140 = .ok (.iconst 1, 1) := by decide +kernel
theorem dX7_turnOn_141 : decode cX7_turnOn 141 = .ok (.iaload, 1) := by decide +kernel
theorem dX7_turnOn_142 : decode cX7_turnOn 142 = .ok (.iconst 1, 1) := by decide +kernel
theorem dX7_turnOn_143 : decode cX7_turnOn 143 = .ok (.isub, 1) := by decide +kernel
theorem dX7_turnOn_144 : decode cX7_turnOn 144 = .ok (.iload_n 2, 1) := by decide +kernel
theorem dX7_turnOn_145 : decode cX7_turnOn 145 = .ok (.isub, 1) := by decide +kernel
theorem dX7_turnOn_146 : decode cX7_turnOn 146 = .ok (.iload_n 3, 1) := by decide +kernel
theorem dX7_turnOn_147 : decode cX7_turnOn 147 = .ok (.invokestatic 66, 3) := by decide +kernel
theorem dX7_turnOn_150 : decode cX7_turnOn 150 = .ok (.istore 5, 2) := by decide +kernel
theorem dX7_turnOn_152 : decode cX7_turnOn 152 = .ok (.iconst 0, 1) := by decide +kernel
theorem dX7_turnOn_153 : decode cX7_turnOn 153 = .ok (.istore 6, 2) := by decide +kernel
theorem dX7_turnOn_155 : decode cX7_turnOn 155 = .ok (.iload 6, 2) := by decide +kernel
theorem dX7_turnOn_157 : decode cX7_turnOn 157 = .ok (.bipush 9, 2) := by decide +kernel
theorem dX7_turnOn_159 : decode cX7_turnOn 159 = .ok (.if_icmp .ge 26, 3) := by decide +kernel
theorem dX7_turnOn_162 : decode cX7_turnOn 162 = .ok (.aload_n 1, 1) := by decide +kernel
theorem dX7_turnOn_163 : decode cX7_turnOn 163 = .ok (.iload 5, 2) := by decide +kernel
theorem dX7_turnOn_165 : decode cX7_turnOn 165 = .ok (.iload 6, 2) := by decide +kernel
theorem dX7_turnOn_167 : decode cX7_turnOn 167 = .ok (.iadd, 1) := by decide +kernel
theorem dX7_turnOn_168 : decode cX7_turnOn 168 = .ok (.aload_n 0, 1) := by decide +kernel
theorem dX7_turnOn_169 : decode cX7_turnOn 169 = .ok (.getfield 22, 3) := by decide +kernel
theorem dX7_turnOn_172 : decode cX7_turnOn 172 = .ok (.iload 4, 2) := by decide +kernel
theorem dX7_turnOn_174 : decode cX7_turnOn 174 = .ok (.iload 6, 2) := by decide +kernel
theorem dX7_turnOn_176 : decode cX7_turnOn 176 = .ok (.iadd, 1) := by decide +kernel
theorem dX7_turnOn_177 : decode cX7_turnOn 177 = .ok (.iaload, 1) := by decide +kernel
theorem dX7_turnOn_178 : decode cX7_turnOn 178 = .ok (.iastore, 1) := by decide +kernel
theorem dX7_turnOn_179 : decode cX7_turnOn 179 = .ok (.iinc 6 1, 3) := by decide +kernel
theorem dX7_turnOn_182 : decode cX7_turnOn 182 = .ok (.goto (-27), 3) := by decide +kernel
theorem dX7_turnOn_185 : decode cX7_turnOn 185 = .ok (.iconst 0, 1) := by decide +kernel
theorem dX7_turnOn_186 : decode cX7_turnOn 186 = .ok (.istore 6, 2) := by decide +kernel
theorem dX7_turnOn_188 : decode cX7_turnOn 188 = .ok (.iload 6, 2) := by decide +kernel
theorem dX7_turnOn_190 : decode cX7_turnOn 190 = .ok (.aload_n 1, 1) := by decide +kernel
theorem dX7_turnOn_191 : decode cX7_turnOn 191 = .ok (.iload 5, 2) := by decide +kernel
theorem dX7_turnOn_193 : decode cX7_turnOn 193 = .ok (.iaload, 1) := by decide +kernel
theorem dX7_turnOn_194 : decode cX7_turnOn 194 = .ok (.if_icmp .ge 34, 3) := by decide +kernel
theorem dX7_turnOn_197 : decode cX7_turnOn 197 = .ok (.aload_n 1, 1) := by decide +kernel
theorem dX7_turnOn_198 : decode cX7_turnOn 198 = .ok (.iload 5, 2) := by decide +kernel
theorem dX7_turnOn_200 : decode cX7_turnOn 200 = .ok (.iload 6, 2) := by decide +kernel
theorem dX7_turnOn_202 : decode cX7_turnOn 202 = .ok (.invokestatic 73, 3) := by decide +kernel
theorem dX7_turnOn_205 : decode cX7_turnOn 205 = .ok (.iconst 2, 1) := by decide +kernel
theorem dX7_turnOn_206 : decode cX7_turnOn 206 = .ok (.iadd, 1) := by decide +kernel
theorem dX7_turnOn_207 : decode cX7_turnOn 207 = .ok (.bipush 8, 2) := by decide +kernel
theorem dX7_turnOn_209 : decode cX7_turnOn 209 = .ok (.aload_n 1, 1) := by decide +kernel
theorem dX7_turnOn_210 : decode cX7_turnOn 210 = .ok (.iload 5, 2) := by decide +kernel
theorem dX7_turnOn_212 : decode cX7_turnOn 212 = .ok (.iload 6, 2) := by decide +kernel
theorem dX7_turnOn_214 : decode cX7_turnOn 214 = .ok (.invokestatic 73, 3) := by decide +kernel
theorem dX7_turnOn_217 : decode cX7_turnOn 217 = .ok (.iconst 2, 1) := by decide +kernel
theorem dX7_turnOn_218 : decode cX7_turnOn 218 = .ok (.iadd, 1) := by decide +kernel
theorem dX7_turnOn_219 : decode cX7_turnOn 219 = .ok (.iaload, 1) := by decide +kernel
theorem dX7_turnOn_220 : decode cX7_turnOn 220 = .ok (.isub, 1) := by decide +kernel
theorem dX7_turnOn_221 : decode cX7_turnOn 221 = .ok (.iastore, 1) := by decide +kernel
theorem dX7_turnOn_222 : decode cX7_turnOn 222 = .ok (.iinc 6 1, 3) := by decide +kernel
theorem dX7_turnOn_225 : decode cX7_turnOn 225 = .ok (.goto (-37), 3) := by decide +kernel
theorem dX7_turnOn_228 : decode cX7_turnOn 228 = .ok (.iinc 3 1, 3) := by decide +kernel
theorem dX7_turnOn_231 : decode cX7_turnOn 231 = .ok (.goto (-112), 3) := by decide +kernel
theorem dX7_turnOn_234 : decode cX7_turnOn 234 = .ok (.iinc 2 1, 3) := by decide +kernel
theorem dX7_turnOn_237 : decode cX7_turnOn 237 = .ok (.goto (-130), 3) := by decide +kernel
theorem dX7_turnOn_240 : decode cX7_turnOn 240 = .ok (.return_, 1) := by decide +kernel
def LX7_turnOn_13 {ρ : Type} (T : zT) (x4 : Nat) (x5 : Nat) (K0 : zH → Option ρ) : Nat → Int32 → zH → Option ρ
  | 0, _, _ => none
  | k + 1, x6, h7 => if 739 ≤ x6 then (K0 h7) else ((zas T h7 x5 x6 0).bind fun h8 => LX7_turnOn_13 T x4 x5 K0 k (x6 + 1) h8)
set_option maxHeartbeats 4000000 in
set_option maxRecDepth 100000 in
theorem LX7_turnOn_13_ok {X : zX} (C : zC X cX7_turnOn 7 RX7 "turnOn" none 1 24) {Z : State → Prop} {al : Bool} {hi : Nat} {ρ : Type} {r9 : ρ} {x4 : Nat} {x5 : Nat} {K0 : zH → Option ρ} (hK0 : ∀ (g9 : zH), K0 g9 = some r9 → zW X 7 Z 0 0 al hi g9 30 [(0, .ref x4), (1, .ref x5)] []) : ∀ (k : Nat) (x6 : Int32) (h7 : zH), LX7_turnOn_13 (xT X) x4 x5 K0 k x6 h7 = some r9 → zW X 7 Z 0 0 al hi h7 13 [(0, .ref x4), (1, .ref x5), (2, .int x6)] [] := by
  intro k
  induction k with
  | zero =>
    intro x6 h7 hf
    have hf : none = some r9 := hf
    cases hf
  | succ k ih =>
    intro x6 h7 hf
    rw [LX7_turnOn_13.eq_2] at hf
    refine z_iload_n C dX7_turnOn_13 2 rfl rfl ?_
    refine z_sipush C (v := 739) dX7_turnOn_14 (by decide) ?_
    refine z_icmp_ge (tgt := 30) C dX7_turnOn_17 (by decide) hf (fun hf => ?_) (fun hf => ?_)
    · refine z_sub [0, 1] rfl ?_
      exact hK0 _ hf
    · refine z_aload_n C dX7_turnOn_20 1 rfl rfl ?_
      refine z_iload_n C dX7_turnOn_21 2 rfl rfl ?_
      refine z_iconst C (v := 0) dX7_turnOn_22 (by decide) ?_
      refine z_iastore C dX7_turnOn_23 hf (fun h8 hf => ?_)
      refine z_iinc C dX7_turnOn_24 (k := 2) (d := 1) rfl (by decide) (by decide) (lv' := [(2, .int (x6 + 1)), (0, .ref x4), (1, .ref x5)]) rfl ?_
      refine z_goto (tgt := 13) C dX7_turnOn_27 (by decide) ?_
      refine z_sub [1, 2, 0] rfl ?_
      exact ih _ _ hf
def LX7_turnOn_50 {ρ : Type} (T : zT) (x16 : Nat) (x17 : Nat) (K0 : zH → Option ρ) : Nat → Int32 → zH → Option ρ
  | 0, _, _ => none
  | k + 1, x18, h19 => if 2 ≤ x18 then (K0 h19) else ((zgr h19 x16 7 7).bind fun x20 => (zai T h19 x20 (4 + (3 * x18))).bind fun x21 => (zgr h19 x16 7 7).bind fun x22 => (zai T h19 x22 ((4 + (3 * x18)) + 1)).bind fun x23 => (zgr h19 x16 7 7).bind fun x24 => (zai T h19 x24 ((4 + (3 * x18)) + 2)).bind fun x25 => (FX7_penOn T x17 x18 x21 (8 - x23) (1 - x25) h19).bind fun h27 => LX7_turnOn_50 T x16 x17 K0 k (x18 + 1) h27)
set_option maxHeartbeats 4000000 in
set_option maxRecDepth 100000 in
theorem LX7_turnOn_50_ok {X : zX} (C : zC X cX7_turnOn 7 RX7 "turnOn" none 1 24) {Z : State → Prop} {al : Bool} {hi : Nat} {ρ : Type} {r9 : ρ} {x16 : Nat} {x17 : Nat} {K0 : zH → Option ρ} (hK0 : ∀ (g9 : zH), K0 g9 = some r9 → zW X 7 Z 0 0 al hi g9 105 [(0, .ref x16), (1, .ref x17)] []) : ∀ (k : Nat) (x18 : Int32) (h19 : zH), LX7_turnOn_50 (xT X) x16 x17 K0 k x18 h19 = some r9 → zW X 7 Z 0 0 al hi h19 50 [(0, .ref x16), (1, .ref x17), (2, .int x18)] [] := by
  intro k
  induction k with
  | zero =>
    intro x18 h19 hf
    have hf : none = some r9 := hf
    cases hf
  | succ k ih =>
    intro x18 h19 hf
    rw [LX7_turnOn_50.eq_2] at hf
    refine z_iload_n C dX7_turnOn_50 2 rfl rfl ?_
    refine z_iconst C (v := 2) dX7_turnOn_51 (by decide) ?_
    refine z_icmp_ge (tgt := 105) C dX7_turnOn_52 (by decide) hf (fun hf => ?_) (fun hf => ?_)
    · refine z_sub [0, 1] rfl ?_
      exact hK0 _ hf
    · refine z_aload_n C dX7_turnOn_55 1 rfl rfl ?_
      refine z_iload_n C dX7_turnOn_56 2 rfl rfl ?_
      refine z_aload_n C dX7_turnOn_57 0 rfl rfl ?_
      refine z_getR C fl_X7_22 dX7_turnOn_58 hf (fun x20 hf => ?_)
      refine z_iconst C (v := 4) dX7_turnOn_61 (by decide) ?_
      refine z_iconst C (v := 3) dX7_turnOn_62 (by decide) ?_
      refine z_iload_n C dX7_turnOn_63 2 rfl rfl ?_
      refine z_imul C dX7_turnOn_64 ?_
      refine z_iadd C dX7_turnOn_65 ?_
      refine z_iaload C dX7_turnOn_66 hf (fun x21 hf => ?_)
      refine z_bipush C (v := 8) dX7_turnOn_67 (by decide) ?_
      refine z_aload_n C dX7_turnOn_69 0 rfl rfl ?_
      refine z_getR C fl_X7_22 dX7_turnOn_70 hf (fun x22 hf => ?_)
      refine z_iconst C (v := 4) dX7_turnOn_73 (by decide) ?_
      refine z_iconst C (v := 3) dX7_turnOn_74 (by decide) ?_
      refine z_iload_n C dX7_turnOn_75 2 rfl rfl ?_
      refine z_imul C dX7_turnOn_76 ?_
      refine z_iadd C dX7_turnOn_77 ?_
      refine z_iconst C (v := 1) dX7_turnOn_78 (by decide) ?_
      refine z_iadd C dX7_turnOn_79 ?_
      refine z_iaload C dX7_turnOn_80 hf (fun x23 hf => ?_)
      refine z_isub C dX7_turnOn_81 ?_
      refine z_iconst C (v := 1) dX7_turnOn_82 (by decide) ?_
      refine z_aload_n C dX7_turnOn_83 0 rfl rfl ?_
      refine z_getR C fl_X7_22 dX7_turnOn_84 hf (fun x24 hf => ?_)
      refine z_iconst C (v := 4) dX7_turnOn_87 (by decide) ?_
      refine z_iconst C (v := 3) dX7_turnOn_88 (by decide) ?_
      refine z_iload_n C dX7_turnOn_89 2 rfl rfl ?_
      refine z_imul C dX7_turnOn_90 ?_
      refine z_iadd C dX7_turnOn_91 ?_
      refine z_iconst C (v := 2) dX7_turnOn_92 (by decide) ?_
      refine z_iadd C dX7_turnOn_93 ?_
      refine z_iaload C dX7_turnOn_94 hf (fun x25 hf => ?_)
      refine z_isub C dX7_turnOn_95 ?_
      obtain ⟨h27, g26, hf⟩ := zbind hf
      refine z_callS (kc' := 0) (ks' := 0) C (MX7_penOn (xl X) (xD X) (xT X) (xlo X) al hi g26) cw_X7_111 ys_X7_penOn dX7_turnOn_96 rfl (by decide) ⟨rfl, rfl⟩ (Nat.le_of_ble_eq_true rfl) (st := []) rfl ?_
      refine z_iinc C dX7_turnOn_99 (k := 2) (d := 1) rfl (by decide) (by decide) (lv' := [(2, .int (x18 + 1)), (0, .ref x16), (1, .ref x17)]) rfl ?_
      refine z_goto (tgt := 50) C dX7_turnOn_102 (by decide) ?_
      refine z_sub [1, 2, 0] rfl ?_
      exact ih _ _ hf
def LX7_turnOn_155 {ρ : Type} (T : zT) (x48 : Nat) (x49 : Nat) (x50 : Int32) (x51 : Int32) (x52 : Int32) (x53 : Int32) (K0 : zH → Option ρ) : Nat → Int32 → zH → Option ρ
  | 0, _, _ => none
  | k + 1, x54, h55 => if 9 ≤ x54 then (K0 h55) else ((zgr h55 x48 7 7).bind fun x56 => (zai T h55 x56 (x52 + x54)).bind fun x57 => (zas T h55 x49 (x53 + x54) x57).bind fun h58 => LX7_turnOn_155 T x48 x49 x50 x51 x52 x53 K0 k (x54 + 1) h58)
set_option maxHeartbeats 4000000 in
set_option maxRecDepth 100000 in
theorem LX7_turnOn_155_ok {X : zX} (C : zC X cX7_turnOn 7 RX7 "turnOn" none 1 24) {Z : State → Prop} {al : Bool} {hi : Nat} {ρ : Type} {r9 : ρ} {x48 : Nat} {x49 : Nat} {x50 : Int32} {x51 : Int32} {x52 : Int32} {x53 : Int32} {K0 : zH → Option ρ} (hK0 : ∀ (g9 : zH), K0 g9 = some r9 → zW X 7 Z 0 0 al hi g9 185 [(0, .ref x48), (1, .ref x49), (2, .int x50), (3, .int x51), (5, .int x53)] []) : ∀ (k : Nat) (x54 : Int32) (h55 : zH), LX7_turnOn_155 (xT X) x48 x49 x50 x51 x52 x53 K0 k x54 h55 = some r9 → zW X 7 Z 0 0 al hi h55 155 [(0, .ref x48), (1, .ref x49), (2, .int x50), (3, .int x51), (4, .int x52), (5, .int x53), (6, .int x54)] [] := by
  intro k
  induction k with
  | zero =>
    intro x54 h55 hf
    have hf : none = some r9 := hf
    cases hf
  | succ k ih =>
    intro x54 h55 hf
    rw [LX7_turnOn_155.eq_2] at hf
    refine z_iload C dX7_turnOn_155 6 rfl ?_
    refine z_bipush C (v := 9) dX7_turnOn_157 (by decide) ?_
    refine z_icmp_ge (tgt := 185) C dX7_turnOn_159 (by decide) hf (fun hf => ?_) (fun hf => ?_)
    · refine z_sub [0, 1, 2, 3, 5] rfl ?_
      exact hK0 _ hf
    · refine z_aload_n C dX7_turnOn_162 1 rfl rfl ?_
      refine z_iload C dX7_turnOn_163 5 rfl ?_
      refine z_iload C dX7_turnOn_165 6 rfl ?_
      refine z_iadd C dX7_turnOn_167 ?_
      refine z_aload_n C dX7_turnOn_168 0 rfl rfl ?_
      refine z_getR C fl_X7_22 dX7_turnOn_169 hf (fun x56 hf => ?_)
      refine z_iload C dX7_turnOn_172 4 rfl ?_
      refine z_iload C dX7_turnOn_174 6 rfl ?_
      refine z_iadd C dX7_turnOn_176 ?_
      refine z_iaload C dX7_turnOn_177 hf (fun x57 hf => ?_)
      refine z_iastore C dX7_turnOn_178 hf (fun h58 hf => ?_)
      refine z_iinc C dX7_turnOn_179 (k := 6) (d := 1) rfl (by decide) (by decide) (lv' := [(6, .int (x54 + 1)), (0, .ref x48), (1, .ref x49), (2, .int x50), (3, .int x51), (4, .int x52), (5, .int x53)]) rfl ?_
      refine z_goto (tgt := 155) C dX7_turnOn_182 (by decide) ?_
      refine z_sub [1, 2, 3, 4, 5, 6, 0] rfl ?_
      exact ih _ _ hf
def LX7_turnOn_188 {ρ : Type} (T : zT) (x60 : Nat) (x61 : Nat) (x62 : Int32) (x63 : Int32) (x64 : Int32) (K0 : zH → Option ρ) : Nat → Int32 → zH → Option ρ
  | 0, _, _ => none
  | k + 1, x65, h66 => (zai T h66 x61 x64).bind fun x67 => if x67 ≤ x65 then (K0 h66) else ((FX7_markAt T x64 x65 h66).bind fun x69 => (FX7_markAt T x64 x65 h66).bind fun x71 => (zai T h66 x61 (x71 + 2)).bind fun x72 => (zas T h66 x61 (x69 + 2) (8 - x72)).bind fun h73 => LX7_turnOn_188 T x60 x61 x62 x63 x64 K0 k (x65 + 1) h73)
set_option maxHeartbeats 4000000 in
set_option maxRecDepth 100000 in
theorem LX7_turnOn_188_ok {X : zX} (C : zC X cX7_turnOn 7 RX7 "turnOn" none 1 24) {Z : State → Prop} {al : Bool} {hi : Nat} {ρ : Type} {r9 : ρ} {x60 : Nat} {x61 : Nat} {x62 : Int32} {x63 : Int32} {x64 : Int32} {K0 : zH → Option ρ} (hK0 : ∀ (g9 : zH), K0 g9 = some r9 → zW X 7 Z 0 0 al hi g9 228 [(0, .ref x60), (1, .ref x61), (2, .int x62), (3, .int x63)] []) : ∀ (k : Nat) (x65 : Int32) (h66 : zH), LX7_turnOn_188 (xT X) x60 x61 x62 x63 x64 K0 k x65 h66 = some r9 → zW X 7 Z 0 0 al hi h66 188 [(0, .ref x60), (1, .ref x61), (2, .int x62), (3, .int x63), (5, .int x64), (6, .int x65)] [] := by
  intro k
  induction k with
  | zero =>
    intro x65 h66 hf
    have hf : none = some r9 := hf
    cases hf
  | succ k ih =>
    intro x65 h66 hf
    rw [LX7_turnOn_188.eq_2] at hf
    refine z_iload C dX7_turnOn_188 5 rfl ?_
    refine z_aload_n C dX7_turnOn_190 1 rfl rfl ?_
    refine z_iload C dX7_turnOn_191 4 rfl ?_
    refine z_iaload C dX7_turnOn_193 hf (fun x67 hf => ?_)
    refine z_icmp_ge (tgt := 228) C dX7_turnOn_194 (by decide) hf (fun hf => ?_) (fun hf => ?_)
    · refine z_sub [0, 1, 2, 3] rfl ?_
      exact hK0 _ hf
    · refine z_aload_n C dX7_turnOn_197 1 rfl rfl ?_
      refine z_iload C dX7_turnOn_198 4 rfl ?_
      refine z_iload C dX7_turnOn_200 5 rfl ?_
      obtain ⟨x69, g68, hf⟩ := zbind hf
      refine z_callS (kc' := 0) (ks' := 0) C (MX7_markAt (xl X) (xD X) (xT X) (xlo X) al hi g68) cw_X7_73 ys_X7_markAt dX7_turnOn_202 rfl (by decide) ⟨rfl, rfl⟩ (Nat.le_of_ble_eq_true rfl) (st := [.ref x61]) rfl ?_
      refine z_iconst C (v := 2) dX7_turnOn_205 (by decide) ?_
      refine z_iadd C dX7_turnOn_206 ?_
      refine z_bipush C (v := 8) dX7_turnOn_207 (by decide) ?_
      refine z_aload_n C dX7_turnOn_209 1 rfl rfl ?_
      refine z_iload C dX7_turnOn_210 4 rfl ?_
      refine z_iload C dX7_turnOn_212 5 rfl ?_
      obtain ⟨x71, g70, hf⟩ := zbind hf
      refine z_callS (kc' := 0) (ks' := 0) C (MX7_markAt (xl X) (xD X) (xT X) (xlo X) al hi g70) cw_X7_73 ys_X7_markAt dX7_turnOn_214 rfl (by decide) ⟨rfl, rfl⟩ (Nat.le_of_ble_eq_true rfl) (st := [.ref x61, .int 8, .int (x69 + 2), .ref x61]) rfl ?_
      refine z_iconst C (v := 2) dX7_turnOn_217 (by decide) ?_
      refine z_iadd C dX7_turnOn_218 ?_
      refine z_iaload C dX7_turnOn_219 hf (fun x72 hf => ?_)
      refine z_isub C dX7_turnOn_220 ?_
      refine z_iastore C dX7_turnOn_221 hf (fun h73 hf => ?_)
      refine z_iinc C dX7_turnOn_222 (k := 5) (d := 1) rfl (by decide) (by decide) (lv' := [(6, .int (x65 + 1)), (0, .ref x60), (1, .ref x61), (2, .int x62), (3, .int x63), (5, .int x64)]) rfl ?_
      refine z_goto (tgt := 188) C dX7_turnOn_225 (by decide) ?_
      refine z_sub [1, 2, 3, 4, 5, 0] rfl ?_
      exact ih _ _ hf
def LX7_turnOn_119 {ρ : Type} (T : zT) (x35 : Nat) (x36 : Nat) (x37 : Int32) (K0 : zH → Option ρ) : Nat → Int32 → zH → Option ρ
  | 0, _, _ => none
  | k + 1, x38, h39 => (zgr h39 x35 7 7).bind fun x40 => (zai T h39 x40 0).bind fun x41 => if x41 ≤ x38 then (K0 h39) else ((FX7_cellAt T x38 x37 h39).bind fun x43 => (zgr h39 x35 7 7).bind fun x44 => (zai T h39 x44 1).bind fun x45 => (FX7_cellAt T ((x45 - 1) - x37) x38 h39).bind fun x47 => LX7_turnOn_155 T x35 x36 x37 x38 x43 x47 (fun (h59 : zH) => LX7_turnOn_188 T x35 x36 x37 x38 x47 (fun (h74 : zH) => LX7_turnOn_119 T x35 x36 x37 K0 k (x38 + 1) h74) FUEL 0 h59) FUEL 0 h39)
set_option maxHeartbeats 4000000 in
set_option maxRecDepth 100000 in
theorem LX7_turnOn_119_ok {X : zX} (C : zC X cX7_turnOn 7 RX7 "turnOn" none 1 24) {Z : State → Prop} {al : Bool} {hi : Nat} {ρ : Type} {r9 : ρ} {x35 : Nat} {x36 : Nat} {x37 : Int32} {K0 : zH → Option ρ} (hK0 : ∀ (g9 : zH), K0 g9 = some r9 → zW X 7 Z 0 0 al hi g9 234 [(0, .ref x35), (1, .ref x36), (2, .int x37)] []) : ∀ (k : Nat) (x38 : Int32) (h39 : zH), LX7_turnOn_119 (xT X) x35 x36 x37 K0 k x38 h39 = some r9 → zW X 7 Z 0 0 al hi h39 119 [(0, .ref x35), (1, .ref x36), (2, .int x37), (3, .int x38)] [] := by
  intro k
  induction k with
  | zero =>
    intro x38 h39 hf
    have hf : none = some r9 := hf
    cases hf
  | succ k ih =>
    intro x38 h39 hf
    rw [LX7_turnOn_119.eq_2] at hf
    refine z_iload_n C dX7_turnOn_119 3 rfl rfl ?_
    refine z_aload_n C dX7_turnOn_120 0 rfl rfl ?_
    refine z_getR C fl_X7_22 dX7_turnOn_121 hf (fun x40 hf => ?_)
    refine z_iconst C (v := 0) dX7_turnOn_124 (by decide) ?_
    refine z_iaload C dX7_turnOn_125 hf (fun x41 hf => ?_)
    refine z_icmp_ge (tgt := 234) C dX7_turnOn_126 (by decide) hf (fun hf => ?_) (fun hf => ?_)
    · refine z_sub [0, 1, 2] rfl ?_
      exact hK0 _ hf
    · refine z_iload_n C dX7_turnOn_129 3 rfl rfl ?_
      refine z_iload_n C dX7_turnOn_130 2 rfl rfl ?_
      obtain ⟨x43, g42, hf⟩ := zbind hf
      refine z_callS (kc' := 0) (ks' := 0) C (MX7_cellAt (xl X) (xD X) (xT X) (xlo X) al hi g42) cw_X7_66 ys_X7_cellAt dX7_turnOn_131 rfl (by decide) ⟨rfl, rfl⟩ (Nat.le_of_ble_eq_true rfl) (st := []) rfl ?_
      refine z_istore C dX7_turnOn_134 (by decide) (lv' := [(4, .int x43), (0, .ref x35), (1, .ref x36), (2, .int x37), (3, .int x38)]) rfl ?_
      refine z_aload_n C dX7_turnOn_136 1 rfl rfl ?_
      refine z_getR C fl_X7_22 dX7_turnOn_137 hf (fun x44 hf => ?_)
      refine z_iconst C (v := 1) dX7_turnOn_140 (by decide) ?_
      refine z_iaload C dX7_turnOn_141 hf (fun x45 hf => ?_)
      refine z_iconst C (v := 1) dX7_turnOn_142 (by decide) ?_
      refine z_isub C dX7_turnOn_143 ?_
      refine z_iload_n C dX7_turnOn_144 3 rfl rfl ?_
      refine z_isub C dX7_turnOn_145 ?_
      refine z_iload_n C dX7_turnOn_146 4 rfl rfl ?_
      obtain ⟨x47, g46, hf⟩ := zbind hf
      refine z_callS (kc' := 0) (ks' := 0) C (MX7_cellAt (xl X) (xD X) (xT X) (xlo X) al hi g46) cw_X7_66 ys_X7_cellAt dX7_turnOn_147 rfl (by decide) ⟨rfl, rfl⟩ (Nat.le_of_ble_eq_true rfl) (st := []) rfl ?_
      refine z_istore C dX7_turnOn_150 (by decide) (lv' := [(5, .int x47), (4, .int x43), (0, .ref x35), (1, .ref x36), (2, .int x37), (3, .int x38)]) rfl ?_
      refine z_iconst C (v := 0) dX7_turnOn_152 (by decide) ?_
      refine z_istore C dX7_turnOn_153 (by decide) (lv' := [(6, .int 0), (5, .int x47), (4, .int x43), (0, .ref x35), (1, .ref x36), (2, .int x37), (3, .int x38)]) rfl ?_
      refine z_sub [3, 4, 5, 6, 2, 1, 0] rfl ?_
      refine LX7_turnOn_155_ok C ?_ FUEL _ _ hf
      · intro h59 hf
        refine z_iconst C (v := 0) dX7_turnOn_185 (by decide) ?_
        refine z_istore C dX7_turnOn_186 (by decide) (lv' := [(6, .int 0), (0, .ref x35), (1, .ref x36), (2, .int x37), (3, .int x38), (5, .int x47)]) rfl ?_
        refine z_sub [1, 2, 3, 4, 5, 0] rfl ?_
        refine LX7_turnOn_188_ok C ?_ FUEL _ _ hf
        · intro h74 hf
          refine z_iinc C dX7_turnOn_228 (k := 3) (d := 1) rfl (by decide) (by decide) (lv' := [(3, .int (x38 + 1)), (0, .ref x35), (1, .ref x36), (2, .int x37)]) rfl ?_
          refine z_goto (tgt := 119) C dX7_turnOn_231 (by decide) ?_
          refine z_sub [1, 2, 3, 0] rfl ?_
          exact ih _ _ hf
def LX7_turnOn_107 {ρ : Type} (T : zT) (x29 : Nat) (x30 : Nat) (K0 : zH → Option ρ) : Nat → Int32 → zH → Option ρ
  | 0, _, _ => none
  | k + 1, x31, h32 => (zgr h32 x29 7 7).bind fun x33 => (zai T h32 x33 1).bind fun x34 => if x34 ≤ x31 then (K0 h32) else (LX7_turnOn_119 T x29 x30 x31 (fun (h75 : zH) => LX7_turnOn_107 T x29 x30 K0 k (x31 + 1) h75) FUEL 0 h32)
set_option maxHeartbeats 4000000 in
set_option maxRecDepth 100000 in
theorem LX7_turnOn_107_ok {X : zX} (C : zC X cX7_turnOn 7 RX7 "turnOn" none 1 24) {Z : State → Prop} {al : Bool} {hi : Nat} {ρ : Type} {r9 : ρ} {x29 : Nat} {x30 : Nat} {K0 : zH → Option ρ} (hK0 : ∀ (g9 : zH), K0 g9 = some r9 → zW X 7 Z 0 0 al hi g9 240 [] []) : ∀ (k : Nat) (x31 : Int32) (h32 : zH), LX7_turnOn_107 (xT X) x29 x30 K0 k x31 h32 = some r9 → zW X 7 Z 0 0 al hi h32 107 [(0, .ref x29), (1, .ref x30), (2, .int x31)] [] := by
  intro k
  induction k with
  | zero =>
    intro x31 h32 hf
    have hf : none = some r9 := hf
    cases hf
  | succ k ih =>
    intro x31 h32 hf
    rw [LX7_turnOn_107.eq_2] at hf
    refine z_iload_n C dX7_turnOn_107 2 rfl rfl ?_
    refine z_aload_n C dX7_turnOn_108 0 rfl rfl ?_
    refine z_getR C fl_X7_22 dX7_turnOn_109 hf (fun x33 hf => ?_)
    refine z_iconst C (v := 1) dX7_turnOn_112 (by decide) ?_
    refine z_iaload C dX7_turnOn_113 hf (fun x34 hf => ?_)
    refine z_icmp_ge (tgt := 240) C dX7_turnOn_114 (by decide) hf (fun hf => ?_) (fun hf => ?_)
    · refine z_sub [] rfl ?_
      exact hK0 _ hf
    · refine z_iconst C (v := 0) dX7_turnOn_117 (by decide) ?_
      refine z_istore_n C dX7_turnOn_118 rfl (by decide) (lv' := [(3, .int 0), (0, .ref x29), (1, .ref x30), (2, .int x31)]) rfl ?_
      refine z_sub [1, 2, 3, 0] rfl ?_
      refine LX7_turnOn_119_ok C ?_ FUEL _ _ hf
      · intro h75 hf
        refine z_iinc C dX7_turnOn_234 (k := 2) (d := 1) rfl (by decide) (by decide) (lv' := [(2, .int (x31 + 1)), (0, .ref x29), (1, .ref x30)]) rfl ?_
        refine z_goto (tgt := 107) C dX7_turnOn_237 (by decide) ?_
        refine z_sub [1, 2, 0] rfl ?_
        exact ih _ _ hf
def FX7_turnOn (T : zT) (a0 : Nat) (p0 : Nat) (h : zH) : Option zH := (zo h a0 7).bind fun _ => (zgr h a0 7 7).bind fun x1 => (FX7_copyPage T p0 0 x1 0 h).bind fun h3 => LX7_turnOn_13 T a0 p0 (fun (h9 : zH) => (zgr h9 a0 7 7).bind fun x10 => (zai T h9 x10 1).bind fun x11 => (zas T h9 p0 0 x11).bind fun h12 => (zgr h12 a0 7 7).bind fun x13 => (zai T h12 x13 0).bind fun x14 => (zas T h12 p0 1 x14).bind fun h15 => LX7_turnOn_50 T a0 p0 (fun (h28 : zH) => LX7_turnOn_107 T a0 p0 (fun (h76 : zH) => some h76) FUEL 0 h28) FUEL 0 h15) FUEL 10 h3
set_option maxHeartbeats 4000000 in
set_option maxRecDepth 100000 in
theorem BX7_turnOn {X : zX} (C : zC X cX7_turnOn 7 RX7 "turnOn" none 1 24) {al : Bool} {hi : Nat} {h : zH} {a0 : Nat} {p0 : Nat} {r9 : zH} (hf : FX7_turnOn (xT X) a0 p0 h = some r9) : zW X 7 (zZ X al (none, hi, r9)) 0 0 al hi h 0 [(0, .ref a0), (1, .ref p0)] [] := by
  unfold FX7_turnOn at hf
  obtain ⟨_, _, hf⟩ := zbind hf
  refine z_aload_n C dX7_turnOn_0 1 rfl rfl ?_
  refine z_iconst C (v := 0) dX7_turnOn_1 (by decide) ?_
  refine z_aload_n C dX7_turnOn_2 0 rfl rfl ?_
  refine z_getR C fl_X7_22 dX7_turnOn_3 hf (fun x1 hf => ?_)
  refine z_iconst C (v := 0) dX7_turnOn_6 (by decide) ?_
  obtain ⟨h3, g2, hf⟩ := zbind hf
  refine z_callS (kc' := 0) (ks' := 0) C (MX7_copyPage (xl X) (xD X) (xT X) (xlo X) al hi g2) cw_X7_107 ys_X7_copyPage dX7_turnOn_7 rfl (by decide) ⟨rfl, rfl⟩ (Nat.le_of_ble_eq_true rfl) (st := []) rfl ?_
  refine z_bipush C (v := 10) dX7_turnOn_10 (by decide) ?_
  refine z_istore_n C dX7_turnOn_12 rfl (by decide) (lv' := [(2, .int 10), (0, .ref a0), (1, .ref p0)]) rfl ?_
  refine z_sub [1, 2, 0] rfl ?_
  refine LX7_turnOn_13_ok C ?_ FUEL _ _ hf
  · intro h9 hf
    refine z_aload_n C dX7_turnOn_30 1 rfl rfl ?_
    refine z_iconst C (v := 0) dX7_turnOn_31 (by decide) ?_
    refine z_aload_n C dX7_turnOn_32 0 rfl rfl ?_
    refine z_getR C fl_X7_22 dX7_turnOn_33 hf (fun x10 hf => ?_)
    refine z_iconst C (v := 1) dX7_turnOn_36 (by decide) ?_
    refine z_iaload C dX7_turnOn_37 hf (fun x11 hf => ?_)
    refine z_iastore C dX7_turnOn_38 hf (fun h12 hf => ?_)
    refine z_aload_n C dX7_turnOn_39 1 rfl rfl ?_
    refine z_iconst C (v := 1) dX7_turnOn_40 (by decide) ?_
    refine z_aload_n C dX7_turnOn_41 0 rfl rfl ?_
    refine z_getR C fl_X7_22 dX7_turnOn_42 hf (fun x13 hf => ?_)
    refine z_iconst C (v := 0) dX7_turnOn_45 (by decide) ?_
    refine z_iaload C dX7_turnOn_46 hf (fun x14 hf => ?_)
    refine z_iastore C dX7_turnOn_47 hf (fun h15 hf => ?_)
    refine z_iconst C (v := 0) dX7_turnOn_48 (by decide) ?_
    refine z_istore_n C dX7_turnOn_49 rfl (by decide) (lv' := [(2, .int 0), (0, .ref a0), (1, .ref p0)]) rfl ?_
    refine z_sub [1, 2, 0] rfl ?_
    refine LX7_turnOn_50_ok C ?_ FUEL _ _ hf
    · intro h28 hf
      refine z_iconst C (v := 0) dX7_turnOn_105 (by decide) ?_
      refine z_istore_n C dX7_turnOn_106 rfl (by decide) (lv' := [(2, .int 0), (0, .ref a0), (1, .ref p0)]) rfl ?_
      refine z_sub [1, 2, 0] rfl ?_
      refine LX7_turnOn_107_ok C ?_ FUEL _ _ hf
      · intro h76 hf
        exact z_vreturn C dX7_turnOn_240 (by cases hf; rfl)
theorem MX7_turnOn (l : Launch) (D : va_G) (T : zT) (lo : Nat) (al : Bool) (hi : Nat) {h : zH} {a0 : Nat} {p0 : Nat} {h9 : zH} (hf : FX7_turnOn T a0 p0 h = some h9) : zM l yX7_turnOn (.code yX7_turnOn cX7_turnOn 7 none :: TW) ({ frames := 1, cells := 0, slots := 0, locals := 24 } : Room) D T lo al [.ref a0, .ref p0] hi h (none, hi, h9) :=
  z_enter (own := RX7) (nm := "turnOn") (lv := [(0, .ref a0), (1, .ref p0)]) (by decide +kernel) rfl rfl (Nat.le_of_ble_eq_true rfl) rfl (fun _ _ _ _ _ _ _ _ C => BX7_turnOn C hf)
theorem OX7_turnOn {T : zT} {h : zH} {a0 : Nat} {p0 : Nat} {r9 : zH} (hf : FX7_turnOn T a0 p0 h = some r9) : ∃ fs, h a0 = some (.inr (7, fs)) := by
  obtain ⟨_, h1, _⟩ := zbind hf
  exact zo_obj h1
theorem dX7_append_0 : decode cX7_append 0 = .ok (.aload_n 0, 1) := by decide +kernel
theorem dX7_append_1 : decode cX7_append 1 = .ok (.iload_n 1, 1) := by decide +kernel
theorem dX7_append_2 : decode cX7_append 2 = .ok (.i2l, 1) := by decide +kernel
theorem dX7_append_3 : decode cX7_append 3 = .ok (.lconst 0, 1) := by decide +kernel
theorem dX7_append_4 : decode cX7_append 4 = .ok (.ldc2_w 115, 3) := by decide +kernel
theorem dX7_append_7 : decode cX7_append 7 = .ok (.invokestatic 58, 3) := by decide +kernel
theorem dX7_append_10 : decode cX7_append 10 = .ok (.ifCond .ne 7, 3) := by decide +kernel
theorem dX7_append_13 : decode cX7_append 13 = .ok (.iconst 1, 1) := by decide +kernel
theorem dX7_append_14 : decode cX7_append 14 = .ok (.goto 17, 3) := by decide +kernel
theorem dX7_append_17 : decode cX7_append 17 = .ok (.aload_n 0, 1) := by decide +kernel
theorem dX7_append_18 : decode cX7_append 18 = .ok (.getfield 117, 3) := by decide +kernel
theorem dX7_append_21 : decode cX7_append 21 = .ok (.bipush 120, 2) := by decide +kernel
theorem dX7_append_23 : decode cX7_append 23 = .ok (.if_icmp .ne 7, 3) := by decide +kernel
theorem dX7_append_26 : decode cX7_append 26 = .ok (.iconst 2, 1) := by decide +kernel
theorem dX7_append_27 : decode cX7_append 27 = .ok (.goto 4, 3) := by decide +kernel
theorem dX7_append_30 : decode cX7_append 30 = .ok (.iconst 0, 1) := by decide +kernel
theorem dX7_append_31 : decode cX7_append 31 = .ok (.invokevirtual 120, 3) := by decide +kernel
theorem dX7_append_34 : decode cX7_append 34 = .ok (.ifCond .eq 5, 3) := by decide +kernel
theorem dX7_append_37 : decode cX7_append 37 = .ok (.iconst 0, 1) := by decide +kernel
theorem dX7_append_38 : decode cX7_append 38 = .ok (.ireturn, 1) := by decide +kernel
theorem dX7_append_39 : decode cX7_append 39 = .ok (.aload_n 0, 1) := by decide +kernel
theorem dX7_append_40 : decode cX7_append 40 = .ok (.getfield 7, 3) := by decide +kernel
theorem dX7_append_43 : decode cX7_append 43 = .ok (.aload_n 0, 1) := by decide +kernel
theorem dX7_append_44 : decode cX7_append 44 = .ok (.getfield 117, 3) := by decide +kernel
theorem dX7_append_47 : decode cX7_append 47 = .ok (.iload_n 1, 1) := by decide +kernel
theorem dX7_append_48 : decode cX7_append 48 = .ok (.iastore, 1) := by decide +kernel
theorem dX7_append_49 : decode cX7_append 49 = .ok (.aload_n 0, 1) := by decide +kernel
theorem dX7_append_50 : decode cX7_append 50 = .ok (.dup, 1) := by decide +kernel
theorem dX7_append_51 : decode cX7_append 51 = .ok (.getfield 117, 3) := by decide +kernel
theorem dX7_append_54 : decode cX7_append 54 = .ok (.iconst 1, 1) := by decide +kernel
theorem dX7_append_55 : decode cX7_append 55 = .ok (.iadd, 1) := by decide +kernel
theorem dX7_append_56 : decode cX7_append 56 = .ok (.putfield 117, 3) := by decide +kernel
theorem dX7_append_59 : decode cX7_append 59 = .ok (.aload_n 0, 1) := by decide +kernel
theorem dX7_append_60 : decode cX7_append 60 = .ok (.getfield 117, 3) := by decide +kernel
theorem dX7_append_63 : decode cX7_append 63 = .ok (.ireturn, 1) := by decide +kernel
def FX7_append (T : zT) (a0 : Nat) (p0 : Int32) (h : zH) : Option (Int32 × zH) := (zo h a0 7).bind fun _ => zJ (fun (x1 : Int32) (x2 : Nat) => zb2 (FX7_refused T x2 x1 h) fun x5 h6 => if x5 = 0 then ((zgr h6 a0 7 1).bind fun x7 => (zgi h6 a0 7 2).bind fun x8 => (zas T h6 x7 x8 p0).bind fun h9 => (zgi h9 a0 7 2).bind fun x10 => (zpv h9 a0 7 2 (.int (x10 + 1))).bind fun h11 => (zgi h11 a0 7 2).bind fun x12 => some (x12, h11)) else (some (0, h6))) (fun J3 => (FX7_in T p0.toInt64 (0 : Int64) (255 : Int64) h).bind fun x14 => if x14 = 0 then (J3 1 a0) else ((zgi h a0 7 2).bind fun x15 => if x15 = 120 then (J3 2 a0) else (J3 0 a0)))
set_option maxHeartbeats 4000000 in
set_option maxRecDepth 100000 in
theorem BX7_append {X : zX} (C : zC X cX7_append 2 RX7 "append" (some .int) 1 25) {al : Bool} {hi : Nat} {h : zH} {a0 : Nat} {p0 : Int32} {r9 : (Int32 × zH)} (hf : FX7_append (xT X) a0 p0 h = some r9) : zW X 2 (zZ X al (some (.int r9.1), hi, r9.2)) 0 0 al hi h 0 [(0, .ref a0), (1, .int p0)] [] := by
  unfold FX7_append at hf
  obtain ⟨_, _, hf⟩ := zbind hf
  refine z_join (P := fun J => ∀ (x1 : Int32) (x2 : Nat), J x1 x2 = some r9 → zW X 2 (zZ X al (some (.int r9.1), hi, r9.2)) 0 0 al hi h 31 [(0, .ref a0), (1, .int p0)] [.int x1, .ref x2]) hf ?_ ?_
  · intro x1 x2 hf
    obtain ⟨x5, h6, g4, hf⟩ := zbind2 hf
    refine z_callV (kc' := 0) (ks' := 0) C (MX7_refused (xl X) (xD X) (xT X) (xlo X) al hi g4) (OX7_refused g4) rfl cw_X7_120 yv_X7_refused dX7_append_31 rfl (by decide) ⟨rfl, rfl⟩ (Nat.le_of_ble_eq_true rfl) (st := []) rfl ?_
    refine z_if_eq (tgt := 39) C dX7_append_34 (by decide) hf (fun hf => ?_) (fun hf => ?_)
    · refine z_aload_n C dX7_append_39 0 rfl rfl ?_
      refine z_getR C fl_X7_7 dX7_append_40 hf (fun x7 hf => ?_)
      refine z_aload_n C dX7_append_43 0 rfl rfl ?_
      refine z_getI C fl_X7_117 dX7_append_44 hf (fun x8 hf => ?_)
      refine z_iload_n C dX7_append_47 1 rfl rfl ?_
      refine z_iastore C dX7_append_48 hf (fun h9 hf => ?_)
      refine z_aload_n C dX7_append_49 0 rfl rfl ?_
      refine z_dup C dX7_append_50 rfl ?_
      refine z_getI C fl_X7_117 dX7_append_51 hf (fun x10 hf => ?_)
      refine z_iconst C (v := 1) dX7_append_54 (by decide) ?_
      refine z_iadd C dX7_append_55 ?_
      refine z_put C fl_X7_117 dX7_append_56 rfl rfl hf (fun h11 hf => ?_)
      refine z_aload_n C dX7_append_59 0 rfl rfl ?_
      refine z_getI C fl_X7_117 dX7_append_60 hf (fun x12 hf => ?_)
      exact z_ireturn C dX7_append_63 (by cases hf; rfl)
    · refine z_iconst C (v := 0) dX7_append_37 (by decide) ?_
      exact z_ireturn C dX7_append_38 (by cases hf; rfl)
  · intro J3 kJ3 hf
    refine z_aload_n C dX7_append_0 0 rfl rfl ?_
    refine z_iload_n C dX7_append_1 1 rfl rfl ?_
    refine z_i2l C dX7_append_2 ?_
    refine z_lconst C (v := 0) dX7_append_3 (by decide) ?_
    refine z_ldc2 C (v := 255) mw_1047 dX7_append_4 ?_
    obtain ⟨x14, g13, hf⟩ := zbind hf
    refine z_callS (kc' := 0) (ks' := 0) C (MX7_in (xl X) (xD X) (xT X) (xlo X) al hi g13) cw_X7_58 ys_X7_in dX7_append_7 rfl (by decide) ⟨rfl, rfl⟩ (Nat.le_of_ble_eq_true rfl) (st := [.ref a0]) rfl ?_
    refine z_if_ne (tgt := 17) C dX7_append_10 (by decide) hf (fun hf => ?_) (fun hf => ?_)
    · refine z_aload_n C dX7_append_17 0 rfl rfl ?_
      refine z_getI C fl_X7_117 dX7_append_18 hf (fun x15 hf => ?_)
      refine z_bipush C (v := 120) dX7_append_21 (by decide) ?_
      refine z_icmp_ne (tgt := 30) C dX7_append_23 (by decide) hf (fun hf => ?_) (fun hf => ?_)
      · refine z_iconst C (v := 0) dX7_append_30 (by decide) ?_
        exact kJ3 _ _ hf
      · refine z_iconst C (v := 2) dX7_append_26 (by decide) ?_
        refine z_goto (tgt := 31) C dX7_append_27 (by decide) ?_
        exact kJ3 _ _ hf
    · refine z_iconst C (v := 1) dX7_append_13 (by decide) ?_
      refine z_goto (tgt := 31) C dX7_append_14 (by decide) ?_
      exact kJ3 _ _ hf
theorem MX7_append (l : Launch) (D : va_G) (T : zT) (lo : Nat) (al : Bool) (hi : Nat) {h : zH} {a0 : Nat} {p0 : Int32} {v9 : Int32} {h9 : zH} (hf : FX7_append T a0 p0 h = some (v9, h9)) : zM l yX7_append (.code yX7_append cX7_append 2 (some .int) :: TW) ({ frames := 1, cells := 0, slots := 0, locals := 25 } : Room) D T lo al [.ref a0, .int p0] hi h (some (.int v9), hi, h9) :=
  z_enter (own := RX7) (nm := "append") (lv := [(0, .ref a0), (1, .int p0)]) (by decide +kernel) rfl rfl (Nat.le_of_ble_eq_true rfl) rfl (fun _ _ _ _ _ _ _ _ C => BX7_append C hf)
theorem OX7_append {T : zT} {h : zH} {a0 : Nat} {p0 : Int32} {r9 : (Int32 × zH)} (hf : FX7_append T a0 p0 h = some r9) : ∃ fs, h a0 = some (.inr (7, fs)) := by
  obtain ⟨_, h1, _⟩ := zbind hf
  exact zo_obj h1
theorem dX7_clearText_0 : decode cX7_clearText 0 = .ok (.aload_n 0, 1) := by decide +kernel
theorem dX7_clearText_1 : decode cX7_clearText 1 = .ok (.iconst 0, 1) := by decide +kernel
theorem dX7_clearText_2 : decode cX7_clearText 2 = .ok (.putfield 54, 3) := by decide +kernel
theorem dX7_clearText_5 : decode cX7_clearText 5 = .ok (.aload_n 0, 1) := by decide +kernel
theorem dX7_clearText_6 : decode cX7_clearText 6 = .ok (.getfield 117, 3) := by decide +kernel
theorem dX7_clearText_9 : decode cX7_clearText 9 = .ok (.istore_n 1, 1) := by decide +kernel
theorem dX7_clearText_10 : decode cX7_clearText 10 = .ok (.aload_n 0, 1) := by decide +kernel
theorem dX7_clearText_11 : decode cX7_clearText 11 = .ok (.iconst 0, 1) := by decide +kernel
theorem dX7_clearText_12 : decode cX7_clearText 12 = .ok (.putfield 117, 3) := by decide +kernel
theorem dX7_clearText_15 : decode cX7_clearText 15 = .ok (.iload_n 1, 1) := by decide +kernel
theorem dX7_clearText_16 : decode cX7_clearText 16 = .ok (.ireturn, 1) := by decide +kernel
def FX7_clearText (T : zT) (a0 : Nat) (h : zH) : Option (Int32 × zH) := (zo h a0 7).bind fun _ => (zpv h a0 7 0 (.int 0)).bind fun h1 => (zgi h1 a0 7 2).bind fun x2 => (zpv h1 a0 7 2 (.int 0)).bind fun h3 => some (x2, h3)
set_option maxHeartbeats 4000000 in
set_option maxRecDepth 100000 in
theorem BX7_clearText {X : zX} (C : zC X cX7_clearText 2 RX7 "clearText" (some .int) 0 0) {al : Bool} {hi : Nat} {h : zH} {a0 : Nat} {r9 : (Int32 × zH)} (hf : FX7_clearText (xT X) a0 h = some r9) : zW X 2 (zZ X al (some (.int r9.1), hi, r9.2)) 0 0 al hi h 0 [(0, .ref a0)] [] := by
  unfold FX7_clearText at hf
  obtain ⟨_, _, hf⟩ := zbind hf
  refine z_aload_n C dX7_clearText_0 0 rfl rfl ?_
  refine z_iconst C (v := 0) dX7_clearText_1 (by decide) ?_
  refine z_put C fl_X7_54 dX7_clearText_2 rfl rfl hf (fun h1 hf => ?_)
  refine z_aload_n C dX7_clearText_5 0 rfl rfl ?_
  refine z_getI C fl_X7_117 dX7_clearText_6 hf (fun x2 hf => ?_)
  refine z_istore_n C dX7_clearText_9 rfl (by decide) (lv' := [(1, .int x2), (0, .ref a0)]) rfl ?_
  refine z_aload_n C dX7_clearText_10 1 rfl rfl ?_
  refine z_iconst C (v := 0) dX7_clearText_11 (by decide) ?_
  refine z_put C fl_X7_117 dX7_clearText_12 rfl rfl hf (fun h3 hf => ?_)
  refine z_iload_n C dX7_clearText_15 0 rfl rfl ?_
  exact z_ireturn C dX7_clearText_16 (by cases hf; rfl)
theorem MX7_clearText (l : Launch) (D : va_G) (T : zT) (lo : Nat) (al : Bool) (hi : Nat) {h : zH} {a0 : Nat} {v9 : Int32} {h9 : zH} (hf : FX7_clearText T a0 h = some (v9, h9)) : zM l yX7_clearText (.code yX7_clearText cX7_clearText 2 (some .int) :: TW) ({ frames := 0, cells := 0, slots := 0, locals := 0 } : Room) D T lo al [.ref a0] hi h (some (.int v9), hi, h9) :=
  z_enter (own := RX7) (nm := "clearText") (lv := [(0, .ref a0)]) (by decide +kernel) rfl rfl (Nat.le_of_ble_eq_true rfl) rfl (fun _ _ _ _ _ _ _ _ C => BX7_clearText C hf)
theorem OX7_clearText {T : zT} {h : zH} {a0 : Nat} {r9 : (Int32 × zH)} (hf : FX7_clearText T a0 h = some r9) : ∃ fs, h a0 = some (.inr (7, fs)) := by
  obtain ⟨_, h1, _⟩ := zbind hf
  exact zo_obj h1
theorem dX7_eat_0 : decode cX7_eat 0 = .ok (.aload_n 0, 1) := by decide +kernel
theorem dX7_eat_1 : decode cX7_eat 1 = .ok (.getfield 124, 3) := by decide +kernel
theorem dX7_eat_4 : decode cX7_eat 4 = .ok (.aload_n 0, 1) := by decide +kernel
theorem dX7_eat_5 : decode cX7_eat 5 = .ok (.getfield 117, 3) := by decide +kernel
theorem dX7_eat_8 : decode cX7_eat 8 = .ok (.if_icmp .ge 20, 3) := by decide +kernel
theorem dX7_eat_11 : decode cX7_eat 11 = .ok (.aload_n 0, 1) := by decide +kernel
theorem dX7_eat_12 : decode cX7_eat 12 = .ok (.getfield 7, 3) := by decide +kernel
theorem dX7_eat_15 : decode cX7_eat 15 = .ok (.aload_n 0, 1) := by decide +kernel
theorem dX7_eat_16 : decode cX7_eat 16 = .ok (.getfield 124, 3) := by decide +kernel
theorem dX7_eat_19 : decode cX7_eat 19 = .ok (.iaload, 1) := by decide +kernel
theorem dX7_eat_20 : decode cX7_eat 20 = .ok (.iload_n 1, 1) := by decide +kernel
theorem dX7_eat_21 : decode cX7_eat 21 = .ok (.if_icmp .ne 7, 3) := by decide +kernel
theorem dX7_eat_24 : decode cX7_eat 24 = .ok (.iconst 1, 1) := by decide +kernel
theorem dX7_eat_25 : decode cX7_eat 25 = .ok (.goto 4, 3) := by decide +kernel
theorem dX7_eat_28 : decode cX7_eat 28 = .ok (.iconst 0, 1) := by decide +kernel
theorem dX7_eat_29 : decode cX7_eat 29 = .ok (.istore_n 2, 1) := by decide +kernel
theorem dX7_eat_30 : decode cX7_eat 30 = .ok (.aload_n 0, 1) := by decide +kernel
theorem dX7_eat_31 : decode cX7_eat 31 = .ok (.dup, 1) := by decide +kernel
theorem dX7_eat_32 : decode cX7_eat 32 = .ok (.getfield 124, 3) := by decide +kernel
theorem dX7_eat_35 : decode cX7_eat 35 = .ok (.iload_n 2, 1) := by decide +kernel
theorem dX7_eat_36 : decode cX7_eat 36 = .ok (.ifCond .eq 7, 3) := by decide +kernel
theorem dX7_eat_39 : decode cX7_eat 39 = .ok (.iconst 1, 1) := by decide +kernel
theorem dX7_eat_40 : decode cX7_eat 40 = .ok (.goto 4, 3) := by decide +kernel
theorem dX7_eat_43 : decode cX7_eat 43 = .ok (.iconst 0, 1) := by decide +kernel
theorem dX7_eat_44 : decode cX7_eat 44 = .ok (.iadd, 1) := by decide +kernel
theorem dX7_eat_45 : decode cX7_eat 45 = .ok (.putfield 124, 3) := by decide +kernel
theorem dX7_eat_48 : decode cX7_eat 48 = .ok (.iload_n 2, 1) := by decide +kernel
theorem dX7_eat_49 : decode cX7_eat 49 = .ok (.ireturn, 1) := by decide +kernel
def FX7_eat (T : zT) (a0 : Nat) (p0 : Int32) (h : zH) : Option (Int32 × zH) := (zo h a0 7).bind fun _ => zJ (fun (x1 : Int32) => zJ (fun (x3 : Int32) (x4 : Int32) (x5 : Int32) (x6 : Nat) => (zpv h x6 7 3 (.int (x5 + x4))).bind fun h8 => if x3 = 0 ∨ x3 = 1 then some (x3, h8) else none) (fun J7 => (zgi h a0 7 3).bind fun x9 => if x1 = 0 then (J7 x1 0 x9 a0) else (J7 x1 1 x9 a0))) (fun J2 => zJ (fun (u9 : Unit) => J2 0) (fun J10 => (zgi h a0 7 3).bind fun x11 => (zgi h a0 7 2).bind fun x12 => if x12 ≤ x11 then (J10 ()) else ((zgr h a0 7 1).bind fun x13 => (zgi h a0 7 3).bind fun x14 => (zai T h x13 x14).bind fun x15 => if x15 = p0 then (J2 1) else (J10 ()))))
set_option maxHeartbeats 4000000 in
set_option maxRecDepth 100000 in
theorem BX7_eat {X : zX} (C : zC X cX7_eat 3 RX7 "eat" (some .boolean) 0 0) {al : Bool} {hi : Nat} {h : zH} {a0 : Nat} {p0 : Int32} {r9 : (Int32 × zH)} (hf : FX7_eat (xT X) a0 p0 h = some r9) : zW X 3 (zZ X al (some (.int r9.1), hi, r9.2)) 0 0 al hi h 0 [(0, .ref a0), (1, .int p0)] [] := by
  unfold FX7_eat at hf
  obtain ⟨_, _, hf⟩ := zbind hf
  refine z_join (P := fun J => ∀ (x1 : Int32), J x1 = some r9 → zW X 3 (zZ X al (some (.int r9.1), hi, r9.2)) 0 0 al hi h 29 [(0, .ref a0)] [.int x1]) hf ?_ ?_
  · intro x1 hf
    refine z_join (P := fun J => ∀ (x3 : Int32) (x4 : Int32) (x5 : Int32) (x6 : Nat), J x3 x4 x5 x6 = some r9 → zW X 3 (zZ X al (some (.int r9.1), hi, r9.2)) 0 0 al hi h 44 [(2, .int x3)] [.int x4, .int x5, .ref x6]) hf ?_ ?_
    · intro x3 x4 x5 x6 hf
      refine z_iadd C dX7_eat_44 ?_
      refine z_put C fl_X7_124 dX7_eat_45 rfl rfl hf (fun h8 hf => ?_)
      refine z_iload_n C dX7_eat_48 0 rfl rfl ?_
      refine z_ite hf (fun c hf => ?_) (fun c hf => nomatch hf)
      exact z_zreturn C dX7_eat_49 c (by cases hf; rfl)
    · intro J7 kJ7 hf
      refine z_istore_n C dX7_eat_29 rfl (by decide) (lv' := [(2, .int x1), (0, .ref a0)]) rfl ?_
      refine z_aload_n C dX7_eat_30 1 rfl rfl ?_
      refine z_dup C dX7_eat_31 rfl ?_
      refine z_getI C fl_X7_124 dX7_eat_32 hf (fun x9 hf => ?_)
      refine z_iload_n C dX7_eat_35 0 rfl rfl ?_
      refine z_if_eq (tgt := 43) C dX7_eat_36 (by decide) hf (fun hf => ?_) (fun hf => ?_)
      · refine z_iconst C (v := 0) dX7_eat_43 (by decide) ?_
        refine z_sub [0] rfl ?_
        exact kJ7 _ _ _ _ hf
      · refine z_iconst C (v := 1) dX7_eat_39 (by decide) ?_
        refine z_goto (tgt := 44) C dX7_eat_40 (by decide) ?_
        refine z_sub [0] rfl ?_
        exact kJ7 _ _ _ _ hf
  · intro J2 kJ2 hf
    refine z_join (P := fun J => ∀ (u9 : Unit), J u9 = some r9 → zW X 3 (zZ X al (some (.int r9.1), hi, r9.2)) 0 0 al hi h 28 [(0, .ref a0)] []) hf ?_ ?_
    · intro u9 hf
      refine z_iconst C (v := 0) dX7_eat_28 (by decide) ?_
      exact kJ2 _ hf
    · intro J10 kJ10 hf
      refine z_aload_n C dX7_eat_0 0 rfl rfl ?_
      refine z_getI C fl_X7_124 dX7_eat_1 hf (fun x11 hf => ?_)
      refine z_aload_n C dX7_eat_4 0 rfl rfl ?_
      refine z_getI C fl_X7_117 dX7_eat_5 hf (fun x12 hf => ?_)
      refine z_icmp_ge (tgt := 28) C dX7_eat_8 (by decide) hf (fun hf => ?_) (fun hf => ?_)
      · refine z_sub [0] rfl ?_
        exact kJ10 _ hf
      · refine z_aload_n C dX7_eat_11 0 rfl rfl ?_
        refine z_getR C fl_X7_7 dX7_eat_12 hf (fun x13 hf => ?_)
        refine z_aload_n C dX7_eat_15 0 rfl rfl ?_
        refine z_getI C fl_X7_124 dX7_eat_16 hf (fun x14 hf => ?_)
        refine z_iaload C dX7_eat_19 hf (fun x15 hf => ?_)
        refine z_iload_n C dX7_eat_20 1 rfl rfl ?_
        refine z_icmp_ne (tgt := 28) C dX7_eat_21 (by decide) hf (fun hf => ?_) (fun hf => ?_)
        · refine z_sub [0] rfl ?_
          exact kJ10 _ hf
        · refine z_iconst C (v := 1) dX7_eat_24 (by decide) ?_
          refine z_goto (tgt := 29) C dX7_eat_25 (by decide) ?_
          refine z_sub [0] rfl ?_
          exact kJ2 _ hf
theorem MX7_eat (l : Launch) (D : va_G) (T : zT) (lo : Nat) (al : Bool) (hi : Nat) {h : zH} {a0 : Nat} {p0 : Int32} {v9 : Int32} {h9 : zH} (hf : FX7_eat T a0 p0 h = some (v9, h9)) : zM l yX7_eat (.code yX7_eat cX7_eat 3 (some .boolean) :: TW) ({ frames := 0, cells := 0, slots := 0, locals := 0 } : Room) D T lo al [.ref a0, .int p0] hi h (some (.int v9), hi, h9) :=
  z_enter (own := RX7) (nm := "eat") (lv := [(0, .ref a0), (1, .int p0)]) (by decide +kernel) rfl rfl (Nat.le_of_ble_eq_true rfl) rfl (fun _ _ _ _ _ _ _ _ C => BX7_eat C hf)
theorem OX7_eat {T : zT} {h : zH} {a0 : Nat} {p0 : Int32} {r9 : (Int32 × zH)} (hf : FX7_eat T a0 p0 h = some r9) : ∃ fs, h a0 = some (.inr (7, fs)) := by
  obtain ⟨_, h1, _⟩ := zbind hf
  exact zo_obj h1
theorem dX7_digit_0 : decode cX7_digit 0 = .ok (.aload_n 0, 1) := by decide +kernel
theorem dX7_digit_1 : decode cX7_digit 1 = .ok (.getfield 124, 3) := by decide +kernel
theorem dX7_digit_4 : decode cX7_digit 4 = .ok (.aload_n 0, 1) := by decide +kernel
theorem dX7_digit_5 : decode cX7_digit 5 = .ok (.getfield 117, 3) := by decide +kernel
theorem dX7_digit_8 : decode cX7_digit 8 = .ok (.if_icmp .ge 18, 3) := by decide +kernel
theorem dX7_digit_11 : decode cX7_digit 11 = .ok (.aload_n 0, 1) := by decide +kernel
theorem dX7_digit_12 : decode cX7_digit 12 = .ok (.getfield 7, 3) := by decide +kernel
theorem dX7_digit_15 : decode cX7_digit 15 = .ok (.aload_n 0, 1) := by decide +kernel
theorem dX7_digit_16 : decode cX7_digit 16 = .ok (.getfield 124, 3) := by decide +kernel
theorem dX7_digit_19 : decode cX7_digit 19 = .ok (.iaload, 1) := by decide +kernel
theorem dX7_digit_20 : decode cX7_digit 20 = .ok (.bipush 48, 2) := by decide +kernel
theorem dX7_digit_22 : decode cX7_digit 22 = .ok (.isub, 1) := by decide +kernel
theorem dX7_digit_23 : decode cX7_digit 23 = .ok (.goto 4, 3) := by decide +kernel
theorem dX7_digit_26 : decode cX7_digit 26 = .ok (.iconst (-1), 1) := by decide +kernel
theorem dX7_digit_27 : decode cX7_digit 27 = .ok (.istore_n 3, 1) := by decide +kernel
theorem dX7_digit_28 : decode cX7_digit 28 = .ok (.iload_n 3, 1) := by decide +kernel
theorem dX7_digit_29 : decode cX7_digit 29 = .ok (.i2l, 1) := by decide +kernel
theorem dX7_digit_30 : decode cX7_digit 30 = .ok (.lconst 0, 1) := by decide +kernel
theorem dX7_digit_31 : decode cX7_digit 31 = .ok (.ldc2_w 127, 3) := by decide +kernel
theorem dX7_digit_34 : decode cX7_digit 34 = .ok (.invokestatic 58, 3) := by decide +kernel
theorem dX7_digit_37 : decode cX7_digit 37 = .ok (.ifCond .eq 19, 3) := by decide +kernel
theorem dX7_digit_40 : decode cX7_digit 40 = .ok (.iload_n 3, 1) := by decide +kernel
theorem dX7_digit_41 : decode cX7_digit 41 = .ok (.i2l, 1) := by decide +kernel
theorem dX7_digit_42 : decode cX7_digit 42 = .ok (.iload_n 1, 1) := by decide +kernel
theorem dX7_digit_43 : decode cX7_digit 43 = .ok (.i2l, 1) := by decide +kernel
theorem dX7_digit_44 : decode cX7_digit 44 = .ok (.iload_n 2, 1) := by decide +kernel
theorem dX7_digit_45 : decode cX7_digit 45 = .ok (.i2l, 1) := by decide +kernel
theorem dX7_digit_46 : decode cX7_digit 46 = .ok (.invokestatic 58, 3) := by decide +kernel
theorem dX7_digit_49 : decode cX7_digit 49 = .ok (.ifCond .eq 7, 3) := by decide +kernel
theorem dX7_digit_52 : decode cX7_digit 52 = .ok (.iconst 1, 1) := by decide +kernel
theorem dX7_digit_53 : decode cX7_digit 53 = .ok (.goto 4, 3) := by decide +kernel
theorem dX7_digit_56 : decode cX7_digit 56 = .ok (.iconst 0, 1) := by decide +kernel
theorem dX7_digit_57 : decode cX7_digit 57 = .ok (.istore 4, 2) := by decide +kernel
theorem dX7_digit_59 : decode cX7_digit 59 = .ok (.aload_n 0, 1) := by decide +kernel
theorem dX7_digit_60 : decode cX7_digit 60 = .ok (.dup, 1) := by decide +kernel
theorem dX7_digit_61 : decode cX7_digit 61 = .ok (.getfield 124, 3) := by decide +kernel
theorem dX7_digit_64 : decode cX7_digit 64 = .ok (.iload 4, 2) := by decide +kernel
theorem dX7_digit_66 : decode cX7_digit 66 = .ok (.ifCond .eq 7, 3) := by decide +kernel
theorem dX7_digit_69 : decode cX7_digit 69 = .ok (.iconst 1, 1) := by decide +kernel
theorem dX7_digit_70 : decode cX7_digit 70 = .ok (.goto 4, 3) := by decide +kernel
theorem dX7_digit_73 : decode cX7_digit 73 = .ok (.iconst 0, 1) := by decide +kernel
theorem dX7_digit_74 : decode cX7_digit 74 = .ok (.iadd, 1) := by decide +kernel
theorem dX7_digit_75 : decode cX7_digit 75 = .ok (.putfield 124, 3) := by decide +kernel
theorem dX7_digit_78 : decode cX7_digit 78 = .ok (.iload 4, 2) := by decide +kernel
theorem dX7_digit_80 : decode cX7_digit 80 = .ok (.ifCond .eq 7, 3) := by decide +kernel
theorem dX7_digit_83 : decode cX7_digit 83 = .ok (.iload_n 3, 1) := by decide +kernel
theorem dX7_digit_84 : decode cX7_digit 84 = .ok (.goto 5, 3) := by decide +kernel
theorem dX7_digit_87 : decode cX7_digit 87 = .ok (.bipush (-9), 2) := by decide +kernel
theorem dX7_digit_89 : decode cX7_digit 89 = .ok (.ireturn, 1) := by decide +kernel
def FX7_digit (T : zT) (a0 : Nat) (p0 : Int32) (p1 : Int32) (h : zH) : Option (Int32 × zH) := (zo h a0 7).bind fun _ => zJ (fun (x1 : Int32) => zJ (fun (x3 : Int32) (x4 : Int32) => zJ (fun (x6 : Int32) (x7 : Int32) (x8 : Int32) (x9 : Nat) => zJ (fun (x11 : Int32) (h12 : zH) => some (x11, h12)) (fun J13 => (zpv h x9 7 3 (.int (x8 + x7))).bind fun h14 => if x6 = 0 then (J13 (-9 : Int32) h14) else (J13 x3 h14))) (fun J10 => (zgi h a0 7 3).bind fun x15 => if x4 = 0 then (J10 x4 0 x15 a0) else (J10 x4 1 x15 a0))) (fun J5 => zJ (fun (x16 : Int32) => J5 x16 0) (fun J17 => (FX7_in T x1.toInt64 (0 : Int64) (9 : Int64) h).bind fun x19 => if x19 = 0 then (J17 x1) else ((FX7_in T x1.toInt64 p0.toInt64 p1.toInt64 h).bind fun x21 => if x21 = 0 then (J17 x1) else (J5 x1 1))))) (fun J2 => (zgi h a0 7 3).bind fun x22 => (zgi h a0 7 2).bind fun x23 => if x23 ≤ x22 then (J2 (-1 : Int32)) else ((zgr h a0 7 1).bind fun x24 => (zgi h a0 7 3).bind fun x25 => (zai T h x24 x25).bind fun x26 => J2 (x26 - 48)))
set_option maxHeartbeats 4000000 in
set_option maxRecDepth 100000 in
theorem BX7_digit {X : zX} (C : zC X cX7_digit 5 RX7 "digit" (some .int) 1 25) {al : Bool} {hi : Nat} {h : zH} {a0 : Nat} {p0 : Int32} {p1 : Int32} {r9 : (Int32 × zH)} (hf : FX7_digit (xT X) a0 p0 p1 h = some r9) : zW X 5 (zZ X al (some (.int r9.1), hi, r9.2)) 0 0 al hi h 0 [(0, .ref a0), (1, .int p0), (2, .int p1)] [] := by
  unfold FX7_digit at hf
  obtain ⟨_, _, hf⟩ := zbind hf
  refine z_join (P := fun J => ∀ (x1 : Int32), J x1 = some r9 → zW X 5 (zZ X al (some (.int r9.1), hi, r9.2)) 0 0 al hi h 27 [(0, .ref a0), (1, .int p0), (2, .int p1)] [.int x1]) hf ?_ ?_
  · intro x1 hf
    refine z_join (P := fun J => ∀ (x3 : Int32) (x4 : Int32), J x3 x4 = some r9 → zW X 5 (zZ X al (some (.int r9.1), hi, r9.2)) 0 0 al hi h 57 [(0, .ref a0), (3, .int x3)] [.int x4]) hf ?_ ?_
    · intro x3 x4 hf
      refine z_join (P := fun J => ∀ (x6 : Int32) (x7 : Int32) (x8 : Int32) (x9 : Nat), J x6 x7 x8 x9 = some r9 → zW X 5 (zZ X al (some (.int r9.1), hi, r9.2)) 0 0 al hi h 74 [(3, .int x3), (4, .int x6)] [.int x7, .int x8, .ref x9]) hf ?_ ?_
      · intro x6 x7 x8 x9 hf
        refine z_join (P := fun J => ∀ (x11 : Int32) (h12 : zH), J x11 h12 = some r9 → zW X 5 (zZ X al (some (.int r9.1), hi, r9.2)) 0 0 al hi h12 89 [] [.int x11]) hf ?_ ?_
        · intro x11 h12 hf
          exact z_ireturn C dX7_digit_89 (by cases hf; rfl)
        · intro J13 kJ13 hf
          refine z_iadd C dX7_digit_74 ?_
          refine z_put C fl_X7_124 dX7_digit_75 rfl rfl hf (fun h14 hf => ?_)
          refine z_iload C dX7_digit_78 1 rfl ?_
          refine z_if_eq (tgt := 87) C dX7_digit_80 (by decide) hf (fun hf => ?_) (fun hf => ?_)
          · refine z_bipush C (v := (-9 : Int32)) dX7_digit_87 (by decide) ?_
            refine z_sub [] rfl ?_
            exact kJ13 _ _ hf
          · refine z_iload_n C dX7_digit_83 0 rfl rfl ?_
            refine z_goto (tgt := 89) C dX7_digit_84 (by decide) ?_
            refine z_sub [] rfl ?_
            exact kJ13 _ _ hf
      · intro J10 kJ10 hf
        refine z_istore C dX7_digit_57 (by decide) (lv' := [(4, .int x4), (0, .ref a0), (3, .int x3)]) rfl ?_
        refine z_aload_n C dX7_digit_59 1 rfl rfl ?_
        refine z_dup C dX7_digit_60 rfl ?_
        refine z_getI C fl_X7_124 dX7_digit_61 hf (fun x15 hf => ?_)
        refine z_iload C dX7_digit_64 0 rfl ?_
        refine z_if_eq (tgt := 73) C dX7_digit_66 (by decide) hf (fun hf => ?_) (fun hf => ?_)
        · refine z_iconst C (v := 0) dX7_digit_73 (by decide) ?_
          refine z_sub [2, 0] rfl ?_
          exact kJ10 _ _ _ _ hf
        · refine z_iconst C (v := 1) dX7_digit_69 (by decide) ?_
          refine z_goto (tgt := 74) C dX7_digit_70 (by decide) ?_
          refine z_sub [2, 0] rfl ?_
          exact kJ10 _ _ _ _ hf
    · intro J5 kJ5 hf
      refine z_join (P := fun J => ∀ (x16 : Int32), J x16 = some r9 → zW X 5 (zZ X al (some (.int r9.1), hi, r9.2)) 0 0 al hi h 56 [(0, .ref a0), (3, .int x16)] []) hf ?_ ?_
      · intro x16 hf
        refine z_iconst C (v := 0) dX7_digit_56 (by decide) ?_
        exact kJ5 _ _ hf
      · intro J17 kJ17 hf
        refine z_istore_n C dX7_digit_27 rfl (by decide) (lv' := [(3, .int x1), (0, .ref a0), (1, .int p0), (2, .int p1)]) rfl ?_
        refine z_iload_n C dX7_digit_28 0 rfl rfl ?_
        refine z_i2l C dX7_digit_29 ?_
        refine z_lconst C (v := 0) dX7_digit_30 (by decide) ?_
        refine z_ldc2 C (v := 9) mw_1075 dX7_digit_31 ?_
        obtain ⟨x19, g18, hf⟩ := zbind hf
        refine z_callS (kc' := 0) (ks' := 0) C (MX7_in (xl X) (xD X) (xT X) (xlo X) al hi g18) cw_X7_58 ys_X7_in dX7_digit_34 rfl (by decide) ⟨rfl, rfl⟩ (Nat.le_of_ble_eq_true rfl) (st := []) rfl ?_
        refine z_if_eq (tgt := 56) C dX7_digit_37 (by decide) hf (fun hf => ?_) (fun hf => ?_)
        · refine z_sub [1, 0] rfl ?_
          exact kJ17 _ hf
        · refine z_iload_n C dX7_digit_40 0 rfl rfl ?_
          refine z_i2l C dX7_digit_41 ?_
          refine z_iload_n C dX7_digit_42 2 rfl rfl ?_
          refine z_i2l C dX7_digit_43 ?_
          refine z_iload_n C dX7_digit_44 3 rfl rfl ?_
          refine z_i2l C dX7_digit_45 ?_
          obtain ⟨x21, g20, hf⟩ := zbind hf
          refine z_callS (kc' := 0) (ks' := 0) C (MX7_in (xl X) (xD X) (xT X) (xlo X) al hi g20) cw_X7_58 ys_X7_in dX7_digit_46 rfl (by decide) ⟨rfl, rfl⟩ (Nat.le_of_ble_eq_true rfl) (st := []) rfl ?_
          refine z_if_eq (tgt := 56) C dX7_digit_49 (by decide) hf (fun hf => ?_) (fun hf => ?_)
          · refine z_sub [1, 0] rfl ?_
            exact kJ17 _ hf
          · refine z_iconst C (v := 1) dX7_digit_52 (by decide) ?_
            refine z_goto (tgt := 57) C dX7_digit_53 (by decide) ?_
            refine z_sub [1, 0] rfl ?_
            exact kJ5 _ _ hf
  · intro J2 kJ2 hf
    refine z_aload_n C dX7_digit_0 0 rfl rfl ?_
    refine z_getI C fl_X7_124 dX7_digit_1 hf (fun x22 hf => ?_)
    refine z_aload_n C dX7_digit_4 0 rfl rfl ?_
    refine z_getI C fl_X7_117 dX7_digit_5 hf (fun x23 hf => ?_)
    refine z_icmp_ge (tgt := 26) C dX7_digit_8 (by decide) hf (fun hf => ?_) (fun hf => ?_)
    · refine z_iconst C (v := (-1 : Int32)) dX7_digit_26 (by decide) ?_
      exact kJ2 _ hf
    · refine z_aload_n C dX7_digit_11 0 rfl rfl ?_
      refine z_getR C fl_X7_7 dX7_digit_12 hf (fun x24 hf => ?_)
      refine z_aload_n C dX7_digit_15 0 rfl rfl ?_
      refine z_getI C fl_X7_124 dX7_digit_16 hf (fun x25 hf => ?_)
      refine z_iaload C dX7_digit_19 hf (fun x26 hf => ?_)
      refine z_bipush C (v := 48) dX7_digit_20 (by decide) ?_
      refine z_isub C dX7_digit_22 ?_
      refine z_goto (tgt := 27) C dX7_digit_23 (by decide) ?_
      exact kJ2 _ hf
theorem MX7_digit (l : Launch) (D : va_G) (T : zT) (lo : Nat) (al : Bool) (hi : Nat) {h : zH} {a0 : Nat} {p0 : Int32} {p1 : Int32} {v9 : Int32} {h9 : zH} (hf : FX7_digit T a0 p0 p1 h = some (v9, h9)) : zM l yX7_digit (.code yX7_digit cX7_digit 5 (some .int) :: TW) ({ frames := 1, cells := 0, slots := 0, locals := 25 } : Room) D T lo al [.ref a0, .int p0, .int p1] hi h (some (.int v9), hi, h9) :=
  z_enter (own := RX7) (nm := "digit") (lv := [(0, .ref a0), (1, .int p0), (2, .int p1)]) (by decide +kernel) rfl rfl (Nat.le_of_ble_eq_true rfl) rfl (fun _ _ _ _ _ _ _ _ C => BX7_digit C hf)
theorem OX7_digit {T : zT} {h : zH} {a0 : Nat} {p0 : Int32} {p1 : Int32} {r9 : (Int32 × zH)} (hf : FX7_digit T a0 p0 p1 h = some r9) : ∃ fs, h a0 = some (.inr (7, fs)) := by
  obtain ⟨_, h1, _⟩ := zbind hf
  exact zo_obj h1
theorem dX7_readSign_0 : decode cX7_readSign 0 = .ok (.aload_n 0, 1) := by decide +kernel
theorem dX7_readSign_1 : decode cX7_readSign 1 = .ok (.bipush 45, 2) := by decide +kernel
theorem dX7_readSign_3 : decode cX7_readSign 3 = .ok (.invokevirtual 129, 3) := by decide +kernel
theorem dX7_readSign_6 : decode cX7_readSign 6 = .ok (.ifCond .eq 6, 3) := by decide +kernel
theorem dX7_readSign_9 : decode cX7_readSign 9 = .ok (.bipush 26, 2) := by decide +kernel
theorem dX7_readSign_11 : decode cX7_readSign 11 = .ok (.ireturn, 1) := by decide +kernel
theorem dX7_readSign_12 : decode cX7_readSign 12 = .ok (.aload_n 0, 1) := by decide +kernel
theorem dX7_readSign_13 : decode cX7_readSign 13 = .ok (.getfield 124, 3) := by decide +kernel
theorem dX7_readSign_16 : decode cX7_readSign 16 = .ok (.aload_n 0, 1) := by decide +kernel
theorem dX7_readSign_17 : decode cX7_readSign 17 = .ok (.getfield 117, 3) := by decide +kernel
theorem dX7_readSign_20 : decode cX7_readSign 20 = .ok (.if_icmp .ge 18, 3) := by decide +kernel
theorem dX7_readSign_23 : decode cX7_readSign 23 = .ok (.aload_n 0, 1) := by decide +kernel
theorem dX7_readSign_24 : decode cX7_readSign 24 = .ok (.getfield 7, 3) := by decide +kernel
theorem dX7_readSign_27 : decode cX7_readSign 27 = .ok (.aload_n 0, 1) := by decide +kernel
theorem dX7_readSign_28 : decode cX7_readSign 28 = .ok (.getfield 124, 3) := by decide +kernel
theorem dX7_readSign_31 : decode cX7_readSign 31 = .ok (.iaload, 1) := by decide +kernel
theorem dX7_readSign_32 : decode cX7_readSign 32 = .ok (.bipush 97, 2) := by decide +kernel
theorem dX7_readSign_34 : decode cX7_readSign 34 = .ok (.isub, 1) := by decide +kernel
theorem dX7_readSign_35 : decode cX7_readSign 35 = .ok (.goto 4, 3) := by decide +kernel
theorem dX7_readSign_38 : decode cX7_readSign 38 = .ok (.iconst (-1), 1) := by decide +kernel
theorem dX7_readSign_39 : decode cX7_readSign 39 = .ok (.istore_n 1, 1) := by decide +kernel
theorem dX7_readSign_40 : decode cX7_readSign 40 = .ok (.iload_n 1, 1) := by decide +kernel
theorem dX7_readSign_41 : decode cX7_readSign 41 = .ok (.i2l, 1) := by decide +kernel
theorem dX7_readSign_42 : decode cX7_readSign 42 = .ok (.lconst 0, 1) := by decide +kernel
theorem dX7_readSign_43 : decode cX7_readSign 43 = .ok (.ldc2_w 132, 3) := by decide +kernel
theorem dX7_readSign_46 : decode cX7_readSign 46 = .ok (.invokestatic 58, 3) := by decide +kernel
theorem dX7_readSign_49 : decode cX7_readSign 49 = .ok (.istore_n 2, 1) := by decide +kernel
theorem dX7_readSign_50 : decode cX7_readSign 50 = .ok (.aload_n 0, 1) := by decide +kernel
theorem dX7_readSign_51 : decode cX7_readSign 51 = .ok (.dup, 1) := by decide +kernel
theorem dX7_readSign_52 : decode cX7_readSign 52 = .ok (.getfield 124, 3) := by decide +kernel
theorem dX7_readSign_55 : decode cX7_readSign 55 = .ok (.iload_n 2, 1) := by decide +kernel
theorem dX7_readSign_56 : decode cX7_readSign 56 = .ok (.ifCond .eq 7, 3) := by decide +kernel
theorem dX7_readSign_59 : decode cX7_readSign 59 = .ok (.iconst 1, 1) := by decide +kernel
theorem dX7_readSign_60 : decode cX7_readSign 60 = .ok (.goto 4, 3) := by decide +kernel
theorem dX7_readSign_63 : decode cX7_readSign 63 = .ok (.iconst 0, 1) := by decide +kernel
theorem dX7_readSign_64 : decode cX7_readSign 64 = .ok (.iadd, 1) := by decide +kernel
theorem dX7_readSign_65 : decode cX7_readSign 65 = .ok (.putfield 124, 3) := by decide +kernel
theorem dX7_readSign_68 : decode cX7_readSign 68 = .ok (.iload_n 2, 1) := by decide +kernel
theorem dX7_readSign_69 : decode cX7_readSign 69 = .ok (.ifCond .eq 7, 3) := by decide +kernel
theorem dX7_readSign_72 : decode cX7_readSign 72 = .ok (.iload_n 1, 1) := by decide +kernel
theorem dX7_readSign_73 : decode cX7_readSign 73 = .ok (.goto 5, 3) := by decide +kernel
theorem dX7_readSign_76 : decode cX7_readSign 76 = .ok (.bipush (-9), 2) := by decide +kernel
theorem dX7_readSign_78 : decode cX7_readSign 78 = .ok (.ireturn, 1) := by decide +kernel
def FX7_readSign (T : zT) (a0 : Nat) (h : zH) : Option (Int32 × zH) := (zo h a0 7).bind fun _ => zb2 (FX7_eat T a0 45 h) fun x2 h3 => if x2 = 0 then (zJ (fun (x4 : Int32) => zJ (fun (x6 : Int32) (x7 : Int32) (x8 : Int32) (x9 : Int32) (x10 : Nat) => zJ (fun (x12 : Int32) (h13 : zH) => some (x12, h13)) (fun J14 => (zpv h3 x10 7 3 (.int (x9 + x8))).bind fun h15 => if x7 = 0 then (J14 (-9 : Int32) h15) else (J14 x6 h15))) (fun J11 => (FX7_in T x4.toInt64 (0 : Int64) (25 : Int64) h3).bind fun x17 => (zgi h3 a0 7 3).bind fun x18 => if x17 = 0 then (J11 x4 x17 0 x18 a0) else (J11 x4 x17 1 x18 a0))) (fun J5 => (zgi h3 a0 7 3).bind fun x19 => (zgi h3 a0 7 2).bind fun x20 => if x20 ≤ x19 then (J5 (-1 : Int32)) else ((zgr h3 a0 7 1).bind fun x21 => (zgi h3 a0 7 3).bind fun x22 => (zai T h3 x21 x22).bind fun x23 => J5 (x23 - 97)))) else (some (26, h3))
set_option maxHeartbeats 4000000 in
set_option maxRecDepth 100000 in
theorem BX7_readSign {X : zX} (C : zC X cX7_readSign 3 RX7 "readSign" (some .int) 1 25) {al : Bool} {hi : Nat} {h : zH} {a0 : Nat} {r9 : (Int32 × zH)} (hf : FX7_readSign (xT X) a0 h = some r9) : zW X 3 (zZ X al (some (.int r9.1), hi, r9.2)) 0 0 al hi h 0 [(0, .ref a0)] [] := by
  unfold FX7_readSign at hf
  obtain ⟨_, _, hf⟩ := zbind hf
  refine z_aload_n C dX7_readSign_0 0 rfl rfl ?_
  refine z_bipush C (v := 45) dX7_readSign_1 (by decide) ?_
  obtain ⟨x2, h3, g1, hf⟩ := zbind2 hf
  refine z_callV (kc' := 0) (ks' := 0) C (MX7_eat (xl X) (xD X) (xT X) (xlo X) al hi g1) (OX7_eat g1) rfl cw_X7_129 yv_X7_eat dX7_readSign_3 rfl (by decide) ⟨rfl, rfl⟩ (Nat.le_of_ble_eq_true rfl) (st := []) rfl ?_
  refine z_if_eq (tgt := 12) C dX7_readSign_6 (by decide) hf (fun hf => ?_) (fun hf => ?_)
  · refine z_join (P := fun J => ∀ (x4 : Int32), J x4 = some r9 → zW X 3 (zZ X al (some (.int r9.1), hi, r9.2)) 0 0 al hi h3 39 [(0, .ref a0)] [.int x4]) hf ?_ ?_
    · intro x4 hf
      refine z_join (P := fun J => ∀ (x6 : Int32) (x7 : Int32) (x8 : Int32) (x9 : Int32) (x10 : Nat), J x6 x7 x8 x9 x10 = some r9 → zW X 3 (zZ X al (some (.int r9.1), hi, r9.2)) 0 0 al hi h3 64 [(1, .int x6), (2, .int x7)] [.int x8, .int x9, .ref x10]) hf ?_ ?_
      · intro x6 x7 x8 x9 x10 hf
        refine z_join (P := fun J => ∀ (x12 : Int32) (h13 : zH), J x12 h13 = some r9 → zW X 3 (zZ X al (some (.int r9.1), hi, r9.2)) 0 0 al hi h13 78 [] [.int x12]) hf ?_ ?_
        · intro x12 h13 hf
          exact z_ireturn C dX7_readSign_78 (by cases hf; rfl)
        · intro J14 kJ14 hf
          refine z_iadd C dX7_readSign_64 ?_
          refine z_put C fl_X7_124 dX7_readSign_65 rfl rfl hf (fun h15 hf => ?_)
          refine z_iload_n C dX7_readSign_68 1 rfl rfl ?_
          refine z_if_eq (tgt := 76) C dX7_readSign_69 (by decide) hf (fun hf => ?_) (fun hf => ?_)
          · refine z_bipush C (v := (-9 : Int32)) dX7_readSign_76 (by decide) ?_
            refine z_sub [] rfl ?_
            exact kJ14 _ _ hf
          · refine z_iload_n C dX7_readSign_72 0 rfl rfl ?_
            refine z_goto (tgt := 78) C dX7_readSign_73 (by decide) ?_
            refine z_sub [] rfl ?_
            exact kJ14 _ _ hf
      · intro J11 kJ11 hf
        refine z_istore_n C dX7_readSign_39 rfl (by decide) (lv' := [(1, .int x4), (0, .ref a0)]) rfl ?_
        refine z_iload_n C dX7_readSign_40 0 rfl rfl ?_
        refine z_i2l C dX7_readSign_41 ?_
        refine z_lconst C (v := 0) dX7_readSign_42 (by decide) ?_
        refine z_ldc2 C (v := 25) mw_1099 dX7_readSign_43 ?_
        obtain ⟨x17, g16, hf⟩ := zbind hf
        refine z_callS (kc' := 0) (ks' := 0) C (MX7_in (xl X) (xD X) (xT X) (xlo X) al hi g16) cw_X7_58 ys_X7_in dX7_readSign_46 rfl (by decide) ⟨rfl, rfl⟩ (Nat.le_of_ble_eq_true rfl) (st := []) rfl ?_
        refine z_istore_n C dX7_readSign_49 rfl (by decide) (lv' := [(2, .int x17), (1, .int x4), (0, .ref a0)]) rfl ?_
        refine z_aload_n C dX7_readSign_50 2 rfl rfl ?_
        refine z_dup C dX7_readSign_51 rfl ?_
        refine z_getI C fl_X7_124 dX7_readSign_52 hf (fun x18 hf => ?_)
        refine z_iload_n C dX7_readSign_55 0 rfl rfl ?_
        refine z_if_eq (tgt := 63) C dX7_readSign_56 (by decide) hf (fun hf => ?_) (fun hf => ?_)
        · refine z_iconst C (v := 0) dX7_readSign_63 (by decide) ?_
          refine z_sub [1, 0] rfl ?_
          exact kJ11 _ _ _ _ _ hf
        · refine z_iconst C (v := 1) dX7_readSign_59 (by decide) ?_
          refine z_goto (tgt := 64) C dX7_readSign_60 (by decide) ?_
          refine z_sub [1, 0] rfl ?_
          exact kJ11 _ _ _ _ _ hf
    · intro J5 kJ5 hf
      refine z_aload_n C dX7_readSign_12 0 rfl rfl ?_
      refine z_getI C fl_X7_124 dX7_readSign_13 hf (fun x19 hf => ?_)
      refine z_aload_n C dX7_readSign_16 0 rfl rfl ?_
      refine z_getI C fl_X7_117 dX7_readSign_17 hf (fun x20 hf => ?_)
      refine z_icmp_ge (tgt := 38) C dX7_readSign_20 (by decide) hf (fun hf => ?_) (fun hf => ?_)
      · refine z_iconst C (v := (-1 : Int32)) dX7_readSign_38 (by decide) ?_
        exact kJ5 _ hf
      · refine z_aload_n C dX7_readSign_23 0 rfl rfl ?_
        refine z_getR C fl_X7_7 dX7_readSign_24 hf (fun x21 hf => ?_)
        refine z_aload_n C dX7_readSign_27 0 rfl rfl ?_
        refine z_getI C fl_X7_124 dX7_readSign_28 hf (fun x22 hf => ?_)
        refine z_iaload C dX7_readSign_31 hf (fun x23 hf => ?_)
        refine z_bipush C (v := 97) dX7_readSign_32 (by decide) ?_
        refine z_isub C dX7_readSign_34 ?_
        refine z_goto (tgt := 39) C dX7_readSign_35 (by decide) ?_
        exact kJ5 _ hf
  · refine z_bipush C (v := 26) dX7_readSign_9 (by decide) ?_
    exact z_ireturn C dX7_readSign_11 (by cases hf; rfl)
theorem MX7_readSign (l : Launch) (D : va_G) (T : zT) (lo : Nat) (al : Bool) (hi : Nat) {h : zH} {a0 : Nat} {v9 : Int32} {h9 : zH} (hf : FX7_readSign T a0 h = some (v9, h9)) : zM l yX7_readSign (.code yX7_readSign cX7_readSign 3 (some .int) :: TW) ({ frames := 1, cells := 0, slots := 0, locals := 25 } : Room) D T lo al [.ref a0] hi h (some (.int v9), hi, h9) :=
  z_enter (own := RX7) (nm := "readSign") (lv := [(0, .ref a0)]) (by decide +kernel) rfl rfl (Nat.le_of_ble_eq_true rfl) rfl (fun _ _ _ _ _ _ _ _ C => BX7_readSign C hf)
theorem OX7_readSign {T : zT} {h : zH} {a0 : Nat} {r9 : (Int32 × zH)} (hf : FX7_readSign T a0 h = some r9) : ∃ fs, h a0 = some (.inr (7, fs)) := by
  obtain ⟨_, h1, _⟩ := zbind hf
  exact zo_obj h1
theorem dX7_hasRoom_0 : decode cX7_hasRoom 0 = .ok (.iconst 0, 1) := by decide +kernel
theorem dX7_hasRoom_1 : decode cX7_hasRoom 1 = .ok (.istore_n 2, 1) := by decide +kernel
theorem dX7_hasRoom_2 : decode cX7_hasRoom 2 = .ok (.iconst 0, 1) := by decide +kernel
theorem dX7_hasRoom_3 : decode cX7_hasRoom 3 = .ok (.istore_n 3, 1) := by decide +kernel
theorem dX7_hasRoom_4 : decode cX7_hasRoom 4 = .ok (.iload_n 3, 1) := by decide +kernel
theorem dX7_hasRoom_5 : decode cX7_hasRoom 5 = .ok (.aload_n 0, 1) := by decide +kernel
theorem dX7_hasRoom_6 : decode cX7_hasRoom 6 = .ok (.getfield 13, 3) := by decide +kernel
theorem dX7_hasRoom_9 : decode cX7_hasRoom 9 = .ok (.iconst 1, 1) := by decide +kernel
theorem dX7_hasRoom_10 : decode cX7_hasRoom 10 = .ok (.iaload, 1) := by decide +kernel
theorem dX7_hasRoom_11 : decode cX7_hasRoom 11 = .ok (.if_icmp .ge 31, 3) := by decide +kernel
theorem dX7_hasRoom_14 : decode cX7_hasRoom 14 = .ok (.iload_n 2, 1) := by decide +kernel
theorem dX7_hasRoom_15 : decode cX7_hasRoom 15 = .ok (.aload_n 0, 1) := by decide +kernel
theorem dX7_hasRoom_16 : decode cX7_hasRoom 16 = .ok (.getfield 13, 3) := by decide +kernel
theorem dX7_hasRoom_19 : decode cX7_hasRoom 19 = .ok (.iload_n 1, 1) := by decide +kernel
theorem dX7_hasRoom_20 : decode cX7_hasRoom 20 = .ok (.iload_n 3, 1) := by decide +kernel
theorem dX7_hasRoom_21 : decode cX7_hasRoom 21 = .ok (.invokestatic 66, 3) := by decide +kernel
theorem dX7_hasRoom_24 : decode cX7_hasRoom 24 = .ok (.iaload, 1) := by decide +kernel
theorem dX7_hasRoom_25 : decode cX7_hasRoom 25 = .ok (.iconst 2, 1) := by decide +kernel
theorem dX7_hasRoom_26 : decode cX7_hasRoom 26 = .ok (.if_icmp .ge 7, 3) := by decide +kernel
theorem dX7_hasRoom_29 : decode cX7_hasRoom 29 = .ok (.iconst 1, 1) := by decide +kernel
theorem dX7_hasRoom_30 : decode cX7_hasRoom 30 = .ok (.goto 4, 3) := by decide +kernel
theorem dX7_hasRoom_33 : decode cX7_hasRoom 33 = .ok (.iconst 0, 1) := by decide +kernel
theorem dX7_hasRoom_34 : decode cX7_hasRoom 34 = .ok (.ior, 1) := by decide +kernel
theorem dX7_hasRoom_35 : decode cX7_hasRoom 35 = .ok (.istore_n 2, 1) := by decide +kernel
theorem dX7_hasRoom_36 : decode cX7_hasRoom 36 = .ok (.iinc 3 1, 3) := by decide +kernel
theorem dX7_hasRoom_39 : decode cX7_hasRoom 39 = .ok (.goto (-35), 3) := by decide +kernel
theorem dX7_hasRoom_42 : decode cX7_hasRoom 42 = .ok (.iload_n 2, 1) := by decide +kernel
theorem dX7_hasRoom_43 : decode cX7_hasRoom 43 = .ok (.ireturn, 1) := by decide +kernel
def LX7_hasRoom_4 {ρ : Type} (T : zT) (h5 : zH) (x1 : Nat) (x2 : Int32) (K0 : Int32 → Option ρ) : Nat → Int32 → Int32 → Option ρ
  | 0, _, _ => none
  | k + 1, x3, x4 => (zgr h5 x1 7 4).bind fun x6 => (zai T h5 x6 1).bind fun x7 => if x7 ≤ x4 then (K0 x3) else (zJ (fun (x8 : Int32) (x9 : Int32) => LX7_hasRoom_4 T h5 x1 x2 K0 k (x9 ||| x8) (x4 + 1)) (fun J10 => (zgr h5 x1 7 4).bind fun x11 => (FX7_cellAt T x2 x4 h5).bind fun x13 => (zai T h5 x11 x13).bind fun x14 => if 2 ≤ x14 then (J10 0 x3) else (J10 1 x3)))
set_option maxHeartbeats 4000000 in
set_option maxRecDepth 100000 in
theorem LX7_hasRoom_4_ok {X : zX} (C : zC X cX7_hasRoom 4 RX7 "hasRoom" (some .boolean) 1 21) {Z : State → Prop} {al : Bool} {hi : Nat} {ρ : Type} {r9 : ρ} {h5 : zH} {x1 : Nat} {x2 : Int32} {K0 : Int32 → Option ρ} (hK0 : ∀ (y2 : Int32), K0 y2 = some r9 → zW X 4 Z 0 0 al hi h5 42 [(2, .int y2)] []) : ∀ (k : Nat) (x3 : Int32) (x4 : Int32), LX7_hasRoom_4 (xT X) h5 x1 x2 K0 k x3 x4 = some r9 → zW X 4 Z 0 0 al hi h5 4 [(0, .ref x1), (1, .int x2), (2, .int x3), (3, .int x4)] [] := by
  intro k
  induction k with
  | zero =>
    intro x3 x4 hf
    have hf : none = some r9 := hf
    cases hf
  | succ k ih =>
    intro x3 x4 hf
    rw [LX7_hasRoom_4.eq_2] at hf
    refine z_iload_n C dX7_hasRoom_4 3 rfl rfl ?_
    refine z_aload_n C dX7_hasRoom_5 0 rfl rfl ?_
    refine z_getR C fl_X7_13 dX7_hasRoom_6 hf (fun x6 hf => ?_)
    refine z_iconst C (v := 1) dX7_hasRoom_9 (by decide) ?_
    refine z_iaload C dX7_hasRoom_10 hf (fun x7 hf => ?_)
    refine z_icmp_ge (tgt := 42) C dX7_hasRoom_11 (by decide) hf (fun hf => ?_) (fun hf => ?_)
    · refine z_sub [2] rfl ?_
      exact hK0 _ hf
    · refine z_join (P := fun J => ∀ (x8 : Int32) (x9 : Int32), J x8 x9 = some r9 → zW X 4 Z 0 0 al hi h5 34 [(0, .ref x1), (1, .int x2), (3, .int x4)] [.int x8, .int x9]) hf ?_ ?_
      · intro x8 x9 hf
        refine z_ior C dX7_hasRoom_34 ?_
        refine z_istore_n C dX7_hasRoom_35 rfl (by decide) (lv' := [(2, .int (x9 ||| x8)), (0, .ref x1), (1, .int x2), (3, .int x4)]) rfl ?_
        refine z_iinc C dX7_hasRoom_36 (k := 3) (d := 1) rfl (by decide) (by decide) (lv' := [(3, .int (x4 + 1)), (2, .int (x9 ||| x8)), (0, .ref x1), (1, .int x2)]) rfl ?_
        refine z_goto (tgt := 4) C dX7_hasRoom_39 (by decide) ?_
        refine z_sub [2, 3, 1, 0] rfl ?_
        exact ih _ _ hf
      · intro J10 kJ10 hf
        refine z_iload_n C dX7_hasRoom_14 2 rfl rfl ?_
        refine z_aload_n C dX7_hasRoom_15 0 rfl rfl ?_
        refine z_getR C fl_X7_13 dX7_hasRoom_16 hf (fun x11 hf => ?_)
        refine z_iload_n C dX7_hasRoom_19 1 rfl rfl ?_
        refine z_iload_n C dX7_hasRoom_20 3 rfl rfl ?_
        obtain ⟨x13, g12, hf⟩ := zbind hf
        refine z_callS (kc' := 0) (ks' := 0) C (MX7_cellAt (xl X) (xD X) (xT X) (xlo X) al hi g12) cw_X7_66 ys_X7_cellAt dX7_hasRoom_21 rfl (by decide) ⟨rfl, rfl⟩ (Nat.le_of_ble_eq_true rfl) (st := [.ref x11, .int x3]) rfl ?_
        refine z_iaload C dX7_hasRoom_24 hf (fun x14 hf => ?_)
        refine z_iconst C (v := 2) dX7_hasRoom_25 (by decide) ?_
        refine z_icmp_ge (tgt := 33) C dX7_hasRoom_26 (by decide) hf (fun hf => ?_) (fun hf => ?_)
        · refine z_iconst C (v := 0) dX7_hasRoom_33 (by decide) ?_
          refine z_sub [0, 1, 3] rfl ?_
          exact kJ10 _ _ hf
        · refine z_iconst C (v := 1) dX7_hasRoom_29 (by decide) ?_
          refine z_goto (tgt := 34) C dX7_hasRoom_30 (by decide) ?_
          refine z_sub [0, 1, 3] rfl ?_
          exact kJ10 _ _ hf
def FX7_hasRoom (T : zT) (a0 : Nat) (p0 : Int32) (h : zH) : Option Int32 := (zo h a0 7).bind fun _ => LX7_hasRoom_4 T h a0 p0 (fun (x15 : Int32) => if x15 = 0 ∨ x15 = 1 then some x15 else none) FUEL 0 0
set_option maxHeartbeats 4000000 in
set_option maxRecDepth 100000 in
theorem BX7_hasRoom {X : zX} (C : zC X cX7_hasRoom 4 RX7 "hasRoom" (some .boolean) 1 21) {al : Bool} {hi : Nat} {h : zH} {a0 : Nat} {p0 : Int32} {r9 : Int32} (hf : FX7_hasRoom (xT X) a0 p0 h = some r9) : zW X 4 (zZ X al (some (.int r9), hi, h)) 0 0 al hi h 0 [(0, .ref a0), (1, .int p0)] [] := by
  unfold FX7_hasRoom at hf
  obtain ⟨_, _, hf⟩ := zbind hf
  refine z_iconst C (v := 0) dX7_hasRoom_0 (by decide) ?_
  refine z_istore_n C dX7_hasRoom_1 rfl (by decide) (lv' := [(2, .int 0), (0, .ref a0), (1, .int p0)]) rfl ?_
  refine z_iconst C (v := 0) dX7_hasRoom_2 (by decide) ?_
  refine z_istore_n C dX7_hasRoom_3 rfl (by decide) (lv' := [(3, .int 0), (2, .int 0), (0, .ref a0), (1, .int p0)]) rfl ?_
  refine z_sub [2, 3, 1, 0] rfl ?_
  refine LX7_hasRoom_4_ok C ?_ FUEL _ _ hf
  · intro x15 hf
    refine z_iload_n C dX7_hasRoom_42 0 rfl rfl ?_
    refine z_ite hf (fun c hf => ?_) (fun c hf => nomatch hf)
    exact z_zreturn C dX7_hasRoom_43 c (by cases hf; rfl)
theorem MX7_hasRoom (l : Launch) (D : va_G) (T : zT) (lo : Nat) (al : Bool) (hi : Nat) {h : zH} {a0 : Nat} {p0 : Int32} {v9 : Int32} (hf : FX7_hasRoom T a0 p0 h = some v9) : zM l yX7_hasRoom (.code yX7_hasRoom cX7_hasRoom 4 (some .boolean) :: TW) ({ frames := 1, cells := 0, slots := 0, locals := 21 } : Room) D T lo al [.ref a0, .int p0] hi h (some (.int v9), hi, h) :=
  z_enter (own := RX7) (nm := "hasRoom") (lv := [(0, .ref a0), (1, .int p0)]) (by decide +kernel) rfl rfl (Nat.le_of_ble_eq_true rfl) rfl (fun _ _ _ _ _ _ _ _ C => BX7_hasRoom C hf)
theorem OX7_hasRoom {T : zT} {h : zH} {a0 : Nat} {p0 : Int32} {r9 : Int32} (hf : FX7_hasRoom T a0 p0 h = some r9) : ∃ fs, h a0 = some (.inr (7, fs)) := by
  obtain ⟨_, h1, _⟩ := zbind hf
  exact zo_obj h1
theorem dX7_hasAnyRoom_0 : decode cX7_hasAnyRoom 0 = .ok (.iconst 0, 1) := by decide +kernel
theorem dX7_hasAnyRoom_1 : decode cX7_hasAnyRoom 1 = .ok (.istore_n 1, 1) := by decide +kernel
theorem dX7_hasAnyRoom_2 : decode cX7_hasAnyRoom 2 = .ok (.iconst 0, 1) := by decide +kernel
theorem dX7_hasAnyRoom_3 : decode cX7_hasAnyRoom 3 = .ok (.istore_n 2, 1) := by decide +kernel
theorem dX7_hasAnyRoom_4 : decode cX7_hasAnyRoom 4 = .ok (.iload_n 2, 1) := by decide +kernel
theorem dX7_hasAnyRoom_5 : decode cX7_hasAnyRoom 5 = .ok (.aload_n 0, 1) := by decide +kernel
theorem dX7_hasAnyRoom_6 : decode cX7_hasAnyRoom 6 = .ok (.getfield 13, 3) := by decide +kernel
theorem dX7_hasAnyRoom_9 : decode cX7_hasAnyRoom 9 = .ok (.iconst 0, 1) := by decide +kernel
theorem dX7_hasAnyRoom_10 : decode cX7_hasAnyRoom 10 = .ok (.iaload, 1) := by decide +kernel
theorem dX7_hasAnyRoom_11 : decode cX7_hasAnyRoom 11 = .ok (.if_icmp .ge 17, 3) := by decide +kernel
theorem dX7_hasAnyRoom_14 : decode cX7_hasAnyRoom 14 = .ok (.iload_n 1, 1) := by decide +kernel
theorem dX7_hasAnyRoom_15 : decode cX7_hasAnyRoom 15 = .ok (.aload_n 0, 1) := by decide +kernel
theorem dX7_hasAnyRoom_16 : decode cX7_hasAnyRoom 16 = .ok (.iload_n 2, 1) := by decide +kernel
theorem dX7_hasAnyRoom_17 : decode cX7_hasAnyRoom 17 = .ok (.invokevirtual 134, 3) := by decide +kernel
theorem dX7_hasAnyRoom_20 : decode cX7_hasAnyRoom 20 = .ok (.ior, 1) := by decide +kernel
theorem dX7_hasAnyRoom_21 : decode cX7_hasAnyRoom 21 = .ok (.istore_n 1, 1) := by decide +kernel
theorem dX7_hasAnyRoom_22 : decode cX7_hasAnyRoom 22 = .ok (.iinc 2 1, 3) := by decide +kernel
theorem dX7_hasAnyRoom_25 : decode cX7_hasAnyRoom 25 = .ok (.goto (-21), 3) := by decide +kernel
theorem dX7_hasAnyRoom_28 : decode cX7_hasAnyRoom 28 = .ok (.iload_n 1, 1) := by decide +kernel
theorem dX7_hasAnyRoom_29 : decode cX7_hasAnyRoom 29 = .ok (.ireturn, 1) := by decide +kernel
def LX7_hasAnyRoom_4 {ρ : Type} (T : zT) (h4 : zH) (x1 : Nat) (K0 : Int32 → Option ρ) : Nat → Int32 → Int32 → Option ρ
  | 0, _, _ => none
  | k + 1, x2, x3 => (zgr h4 x1 7 4).bind fun x5 => (zai T h4 x5 0).bind fun x6 => if x6 ≤ x3 then (K0 x2) else ((FX7_hasRoom T x1 x3 h4).bind fun x8 => LX7_hasAnyRoom_4 T h4 x1 K0 k (x2 ||| x8) (x3 + 1))
set_option maxHeartbeats 4000000 in
set_option maxRecDepth 100000 in
theorem LX7_hasAnyRoom_4_ok {X : zX} (C : zC X cX7_hasAnyRoom 3 RX7 "hasAnyRoom" (some .boolean) 2 44) {Z : State → Prop} {al : Bool} {hi : Nat} {ρ : Type} {r9 : ρ} {h4 : zH} {x1 : Nat} {K0 : Int32 → Option ρ} (hK0 : ∀ (y1 : Int32), K0 y1 = some r9 → zW X 3 Z 0 0 al hi h4 28 [(1, .int y1)] []) : ∀ (k : Nat) (x2 : Int32) (x3 : Int32), LX7_hasAnyRoom_4 (xT X) h4 x1 K0 k x2 x3 = some r9 → zW X 3 Z 0 0 al hi h4 4 [(0, .ref x1), (1, .int x2), (2, .int x3)] [] := by
  intro k
  induction k with
  | zero =>
    intro x2 x3 hf
    have hf : none = some r9 := hf
    cases hf
  | succ k ih =>
    intro x2 x3 hf
    rw [LX7_hasAnyRoom_4.eq_2] at hf
    refine z_iload_n C dX7_hasAnyRoom_4 2 rfl rfl ?_
    refine z_aload_n C dX7_hasAnyRoom_5 0 rfl rfl ?_
    refine z_getR C fl_X7_13 dX7_hasAnyRoom_6 hf (fun x5 hf => ?_)
    refine z_iconst C (v := 0) dX7_hasAnyRoom_9 (by decide) ?_
    refine z_iaload C dX7_hasAnyRoom_10 hf (fun x6 hf => ?_)
    refine z_icmp_ge (tgt := 28) C dX7_hasAnyRoom_11 (by decide) hf (fun hf => ?_) (fun hf => ?_)
    · refine z_sub [1] rfl ?_
      exact hK0 _ hf
    · refine z_iload_n C dX7_hasAnyRoom_14 1 rfl rfl ?_
      refine z_aload_n C dX7_hasAnyRoom_15 0 rfl rfl ?_
      refine z_iload_n C dX7_hasAnyRoom_16 2 rfl rfl ?_
      obtain ⟨x8, g7, hf⟩ := zbind hf
      refine z_callV (kc' := 0) (ks' := 0) C (MX7_hasRoom (xl X) (xD X) (xT X) (xlo X) al hi g7) (OX7_hasRoom g7) rfl cw_X7_134 yv_X7_hasRoom dX7_hasAnyRoom_17 rfl (by decide) ⟨rfl, rfl⟩ (Nat.le_of_ble_eq_true rfl) (st := [.int x2]) rfl ?_
      refine z_ior C dX7_hasAnyRoom_20 ?_
      refine z_istore_n C dX7_hasAnyRoom_21 rfl (by decide) (lv' := [(1, .int (x2 ||| x8)), (0, .ref x1), (2, .int x3)]) rfl ?_
      refine z_iinc C dX7_hasAnyRoom_22 (k := 2) (d := 1) rfl (by decide) (by decide) (lv' := [(2, .int (x3 + 1)), (1, .int (x2 ||| x8)), (0, .ref x1)]) rfl ?_
      refine z_goto (tgt := 4) C dX7_hasAnyRoom_25 (by decide) ?_
      refine z_sub [2, 1, 0] rfl ?_
      exact ih _ _ hf
def FX7_hasAnyRoom (T : zT) (a0 : Nat) (h : zH) : Option Int32 := (zo h a0 7).bind fun _ => LX7_hasAnyRoom_4 T h a0 (fun (x9 : Int32) => if x9 = 0 ∨ x9 = 1 then some x9 else none) FUEL 0 0
set_option maxHeartbeats 4000000 in
set_option maxRecDepth 100000 in
theorem BX7_hasAnyRoom {X : zX} (C : zC X cX7_hasAnyRoom 3 RX7 "hasAnyRoom" (some .boolean) 2 44) {al : Bool} {hi : Nat} {h : zH} {a0 : Nat} {r9 : Int32} (hf : FX7_hasAnyRoom (xT X) a0 h = some r9) : zW X 3 (zZ X al (some (.int r9), hi, h)) 0 0 al hi h 0 [(0, .ref a0)] [] := by
  unfold FX7_hasAnyRoom at hf
  obtain ⟨_, _, hf⟩ := zbind hf
  refine z_iconst C (v := 0) dX7_hasAnyRoom_0 (by decide) ?_
  refine z_istore_n C dX7_hasAnyRoom_1 rfl (by decide) (lv' := [(1, .int 0), (0, .ref a0)]) rfl ?_
  refine z_iconst C (v := 0) dX7_hasAnyRoom_2 (by decide) ?_
  refine z_istore_n C dX7_hasAnyRoom_3 rfl (by decide) (lv' := [(2, .int 0), (1, .int 0), (0, .ref a0)]) rfl ?_
  refine z_sub [2, 1, 0] rfl ?_
  refine LX7_hasAnyRoom_4_ok C ?_ FUEL _ _ hf
  · intro x9 hf
    refine z_iload_n C dX7_hasAnyRoom_28 0 rfl rfl ?_
    refine z_ite hf (fun c hf => ?_) (fun c hf => nomatch hf)
    exact z_zreturn C dX7_hasAnyRoom_29 c (by cases hf; rfl)
theorem MX7_hasAnyRoom (l : Launch) (D : va_G) (T : zT) (lo : Nat) (al : Bool) (hi : Nat) {h : zH} {a0 : Nat} {v9 : Int32} (hf : FX7_hasAnyRoom T a0 h = some v9) : zM l yX7_hasAnyRoom (.code yX7_hasAnyRoom cX7_hasAnyRoom 3 (some .boolean) :: TW) ({ frames := 2, cells := 0, slots := 0, locals := 44 } : Room) D T lo al [.ref a0] hi h (some (.int v9), hi, h) :=
  z_enter (own := RX7) (nm := "hasAnyRoom") (lv := [(0, .ref a0)]) (by decide +kernel) rfl rfl (Nat.le_of_ble_eq_true rfl) rfl (fun _ _ _ _ _ _ _ _ C => BX7_hasAnyRoom C hf)
theorem OX7_hasAnyRoom {T : zT} {h : zH} {a0 : Nat} {r9 : Int32} (hf : FX7_hasAnyRoom T a0 h = some r9) : ∃ fs, h a0 = some (.inr (7, fs)) := by
  obtain ⟨_, h1, _⟩ := zbind hf
  exact zo_obj h1
theorem dX7_readMark_0 : decode cX7_readMark 0 = .ok (.aload_n 0, 1) := by decide +kernel
theorem dX7_readMark_1 : decode cX7_readMark 1 = .ok (.iconst 0, 1) := by decide +kernel
theorem dX7_readMark_2 : decode cX7_readMark 2 = .ok (.aload_n 0, 1) := by decide +kernel
theorem dX7_readMark_3 : decode cX7_readMark 3 = .ok (.getfield 13, 3) := by decide +kernel
theorem dX7_readMark_6 : decode cX7_readMark 6 = .ok (.iconst 0, 1) := by decide +kernel
theorem dX7_readMark_7 : decode cX7_readMark 7 = .ok (.iaload, 1) := by decide +kernel
theorem dX7_readMark_8 : decode cX7_readMark 8 = .ok (.iconst 1, 1) := by decide +kernel
theorem dX7_readMark_9 : decode cX7_readMark 9 = .ok (.isub, 1) := by decide +kernel
theorem dX7_readMark_10 : decode cX7_readMark 10 = .ok (.invokevirtual 137, 3) := by decide +kernel
theorem dX7_readMark_13 : decode cX7_readMark 13 = .ok (.istore_n 1, 1) := by decide +kernel
theorem dX7_readMark_14 : decode cX7_readMark 14 = .ok (.iload_n 1, 1) := by decide +kernel
theorem dX7_readMark_15 : decode cX7_readMark 15 = .ok (.bipush (-9), 2) := by decide +kernel
theorem dX7_readMark_17 : decode cX7_readMark 17 = .ok (.if_icmp .ne 5, 3) := by decide +kernel
theorem dX7_readMark_20 : decode cX7_readMark 20 = .ok (.iconst 0, 1) := by decide +kernel
theorem dX7_readMark_21 : decode cX7_readMark 21 = .ok (.ireturn, 1) := by decide +kernel
theorem dX7_readMark_22 : decode cX7_readMark 22 = .ok (.aload_n 0, 1) := by decide +kernel
theorem dX7_readMark_23 : decode cX7_readMark 23 = .ok (.iload_n 1, 1) := by decide +kernel
theorem dX7_readMark_24 : decode cX7_readMark 24 = .ok (.invokevirtual 134, 3) := by decide +kernel
theorem dX7_readMark_27 : decode cX7_readMark 27 = .ok (.ifCond .ne 15, 3) := by decide +kernel
theorem dX7_readMark_30 : decode cX7_readMark 30 = .ok (.aload_n 0, 1) := by decide +kernel
theorem dX7_readMark_31 : decode cX7_readMark 31 = .ok (.dup, 1) := by decide +kernel
theorem dX7_readMark_32 : decode cX7_readMark 32 = .ok (.getfield 124, 3) := by decide +kernel
theorem dX7_readMark_35 : decode cX7_readMark 35 = .ok (.iconst 1, 1) := by decide +kernel
theorem dX7_readMark_36 : decode cX7_readMark 36 = .ok (.isub, 1) := by decide +kernel
theorem dX7_readMark_37 : decode cX7_readMark 37 = .ok (.putfield 124, 3) := by decide +kernel
theorem dX7_readMark_40 : decode cX7_readMark 40 = .ok (.iconst 0, 1) := by decide +kernel
theorem dX7_readMark_41 : decode cX7_readMark 41 = .ok (.ireturn, 1) := by decide +kernel
theorem dX7_readMark_42 : decode cX7_readMark 42 = .ok (.aload_n 0, 1) := by decide +kernel
theorem dX7_readMark_43 : decode cX7_readMark 43 = .ok (.iconst 0, 1) := by decide +kernel
theorem dX7_readMark_44 : decode cX7_readMark 44 = .ok (.aload_n 0, 1) := by decide +kernel
theorem dX7_readMark_45 : decode cX7_readMark 45 = .ok (.getfield 13, 3) := by decide +kernel
theorem dX7_readMark_48 : decode cX7_readMark 48 = .ok (.iconst 1, 1) := by decide +kernel
theorem dX7_readMark_49 : decode cX7_readMark 49 = .ok (.iaload, 1) := by decide +kernel
theorem dX7_readMark_50 : decode cX7_readMark 50 = .ok (.iconst 1, 1) := by decide +kernel
theorem dX7_readMark_51 : decode cX7_readMark 51 = .ok (.isub, 1) := by decide +kernel
theorem dX7_readMark_52 : decode cX7_readMark 52 = .ok (.invokevirtual 137, 3) := by decide +kernel
theorem dX7_readMark_55 : decode cX7_readMark 55 = .ok (.istore_n 2, 1) := by decide +kernel
theorem dX7_readMark_56 : decode cX7_readMark 56 = .ok (.iload_n 2, 1) := by decide +kernel
theorem dX7_readMark_57 : decode cX7_readMark 57 = .ok (.bipush (-9), 2) := by decide +kernel
theorem dX7_readMark_59 : decode cX7_readMark 59 = .ok (.if_icmp .ne 5, 3) := by decide +kernel
theorem dX7_readMark_62 : decode cX7_readMark 62 = .ok (.iconst 0, 1) := by decide +kernel
theorem dX7_readMark_63 : decode cX7_readMark 63 = .ok (.ireturn, 1) := by decide +kernel
theorem dX7_readMark_64 : decode cX7_readMark 64 = .ok (.aload_n 0, 1) := by decide +kernel
theorem dX7_readMark_65 : decode cX7_readMark 65 = .ok (.getfield 13, 3) := by decide +kernel
theorem dX7_readMark_68 : decode cX7_readMark 68 = .ok (.iload_n 1, 1) := by decide +kernel
theorem dX7_readMark_69 : decode cX7_readMark 69 = .ok (.iload_n 2, 1) := by decide +kernel
theorem dX7_readMark_70 : decode cX7_readMark 70 = .ok (.invokestatic 66, 3) := by decide +kernel
theorem dX7_readMark_73 : decode cX7_readMark 73 = .ok (.iaload, 1) := by decide +kernel
theorem dX7_readMark_74 : decode cX7_readMark 74 = .ok (.iconst 2, 1) := by decide +kernel
theorem dX7_readMark_75 : decode cX7_readMark 75 = .ok (.if_icmp .ne 15, 3) := by decide +kernel
theorem dX7_readMark_78 : decode cX7_readMark 78 = .ok (.aload_n 0, 1) := by decide +kernel
theorem dX7_readMark_79 : decode cX7_readMark 79 = .ok (.dup, 1) := by decide +kernel
theorem dX7_readMark_80 : decode cX7_readMark 80 = .ok (.getfield 124, 3) := by decide +kernel
theorem dX7_readMark_83 : decode cX7_readMark 83 = .ok (.iconst 1, 1) := by decide +kernel
theorem dX7_readMark_84 : decode cX7_readMark 84 = .ok (.isub, 1) := by decide +kernel
theorem dX7_readMark_85 : decode cX7_readMark 85 = .ok (.putfield 124, 3) := by decide +kernel
theorem dX7_readMark_88 : decode cX7_readMark 88 = .ok (.iconst 0, 1) := by decide +kernel
theorem dX7_readMark_89 : decode cX7_readMark 89 = .ok (.ireturn, 1) := by decide +kernel
theorem dX7_readMark_90 : decode cX7_readMark 90 = .ok (.aload_n 0, 1) := by decide +kernel
theorem dX7_readMark_91 : decode cX7_readMark 91 = .ok (.invokevirtual 140, 3) := by decide +kernel
theorem dX7_readMark_94 : decode cX7_readMark 94 = .ok (.istore_n 3, 1) := by decide +kernel
theorem dX7_readMark_95 : decode cX7_readMark 95 = .ok (.iload_n 3, 1) := by decide +kernel
theorem dX7_readMark_96 : decode cX7_readMark 96 = .ok (.bipush (-9), 2) := by decide +kernel
theorem dX7_readMark_98 : decode cX7_readMark 98 = .ok (.if_icmp .ne 8, 3) := by decide +kernel
theorem dX7_readMark_101 : decode cX7_readMark 101 = .ok (.bipush (-9), 2) := by decide +kernel
theorem dX7_readMark_103 : decode cX7_readMark 103 = .ok (.goto 9, 3) := by decide +kernel
theorem dX7_readMark_106 : decode cX7_readMark 106 = .ok (.aload_n 0, 1) := by decide +kernel
theorem dX7_readMark_107 : decode cX7_readMark 107 = .ok (.iconst 0, 1) := by decide +kernel
theorem dX7_readMark_108 : decode cX7_readMark 108 = .ok (.iconst 3, 1) := by decide +kernel
theorem dX7_readMark_109 : decode cX7_readMark 109 = .ok (.invokevirtual 137, 3) := by decide +kernel
theorem dX7_readMark_112 : decode cX7_readMark 112 = .ok (.istore 4, 2) := by decide +kernel
theorem dX7_readMark_114 : decode cX7_readMark 114 = .ok (.iload 4, 2) := by decide +kernel
theorem dX7_readMark_116 : decode cX7_readMark 116 = .ok (.bipush (-9), 2) := by decide +kernel
theorem dX7_readMark_118 : decode cX7_readMark 118 = .ok (.if_icmp .ne 8, 3) := by decide +kernel
theorem dX7_readMark_121 : decode cX7_readMark 121 = .ok (.bipush (-9), 2) := by decide +kernel
theorem dX7_readMark_123 : decode cX7_readMark 123 = .ok (.goto 10, 3) := by decide +kernel
theorem dX7_readMark_126 : decode cX7_readMark 126 = .ok (.aload_n 0, 1) := by decide +kernel
theorem dX7_readMark_127 : decode cX7_readMark 127 = .ok (.iconst 0, 1) := by decide +kernel
theorem dX7_readMark_128 : decode cX7_readMark 128 = .ok (.bipush 8, 2) := by decide +kernel
theorem dX7_readMark_130 : decode cX7_readMark 130 = .ok (.invokevirtual 137, 3) := by decide +kernel
theorem dX7_readMark_133 : decode cX7_readMark 133 = .ok (.istore 5, 2) := by decide +kernel
theorem dX7_readMark_135 : decode cX7_readMark 135 = .ok (.iload 5, 2) := by decide +kernel
theorem dX7_readMark_137 : decode cX7_readMark 137 = .ok (.bipush (-9), 2) := by decide +kernel
theorem dX7_readMark_139 : decode cX7_readMark 139 = .ok (.if_icmp .ne 5, 3) := by decide +kernel
theorem dX7_readMark_142 : decode cX7_readMark 142 = .ok (.iconst 0, 1) := by decide +kernel
theorem dX7_readMark_143 : decode cX7_readMark 143 = .ok (.ireturn, 1) := by decide +kernel
theorem dX7_readMark_144 : decode cX7_readMark 144 = .ok (.aload_n 0, 1) := by decide +kernel
theorem dX7_readMark_145 : decode cX7_readMark 145 = .ok (.getfield 13, 3) := by decide +kernel
theorem dX7_readMark_148 : decode cX7_readMark 148 = .ok (.iload_n 1, 1) := by decide +kernel
theorem dX7_readMark_149 : decode cX7_readMark 149 = .ok (.iload_n 2, 1) := by decide +kernel
theorem dX7_readMark_150 : decode cX7_readMark 150 = .ok (.invokestatic 66, 3) := by decide +kernel
theorem dX7_readMark_153 : decode cX7_readMark 153 = .ok (.iload_n 3, 1) := by decide +kernel
theorem dX7_readMark_154 : decode cX7_readMark 154 = .ok (.iload 4, 2) := by decide +kernel
theorem dX7_readMark_156 : decode cX7_readMark 156 = .ok (.iload 5, 2) := by decide +kernel
theorem dX7_readMark_158 : decode cX7_readMark 158 = .ok (.invokestatic 144, 3) := by decide +kernel
theorem dX7_readMark_161 : decode cX7_readMark 161 = .ok (.pop, 1) := by decide +kernel
theorem dX7_readMark_162 : decode cX7_readMark 162 = .ok (.iconst 1, 1) := by decide +kernel
theorem dX7_readMark_163 : decode cX7_readMark 163 = .ok (.ireturn, 1) := by decide +kernel
def FX7_readMark (T : zT) (a0 : Nat) (h : zH) : Option (Int32 × zH) := (zo h a0 7).bind fun _ => (zgr h a0 7 4).bind fun x1 => (zai T h x1 0).bind fun x2 => zb2 (FX7_digit T a0 0 (x2 - 1) h) fun x4 h5 => if x4 = (-9 : Int32) then (some (0, h5)) else ((FX7_hasRoom T a0 x4 h5).bind fun x7 => if x7 = 0 then ((zgi h5 a0 7 3).bind fun x42 => (zpv h5 a0 7 3 (.int (x42 - 1))).bind fun h43 => some (0, h43)) else ((zgr h5 a0 7 4).bind fun x8 => (zai T h5 x8 1).bind fun x9 => zb2 (FX7_digit T a0 0 (x9 - 1) h5) fun x11 h12 => if x11 = (-9 : Int32) then (some (0, h12)) else ((zgr h12 a0 7 4).bind fun x13 => (FX7_cellAt T x4 x11 h12).bind fun x15 => (zai T h12 x13 x15).bind fun x16 => if x16 = 2 then ((zgi h12 a0 7 3).bind fun x40 => (zpv h12 a0 7 3 (.int (x40 - 1))).bind fun h41 => some (0, h41)) else (zJ (fun (x17 : Int32) (x18 : Int32) (h19 : zH) => zJ (fun (x21 : Int32) (x22 : Int32) (h23 : zH) => if x22 = (-9 : Int32) then (some (0, h23)) else ((zgr h23 a0 7 4).bind fun x25 => (FX7_cellAt T x4 x11 h23).bind fun x27 => zb2 (FX7_writeOn T x25 x27 x17 x21 x22 h23) fun x29 h30 => some (1, h30))) (fun J24 => if x18 = (-9 : Int32) then (J24 x18 (-9 : Int32) h19) else (zb2 (FX7_digit T a0 0 8 h19) fun x32 h33 => J24 x18 x32 h33))) (fun J20 => zb2 (FX7_readSign T a0 h12) fun x35 h36 => if x35 = (-9 : Int32) then (J20 x35 (-9 : Int32) h36) else (zb2 (FX7_digit T a0 0 3 h36) fun x38 h39 => J20 x35 x38 h39))))))
set_option maxHeartbeats 4000000 in
set_option maxRecDepth 100000 in
theorem BX7_readMark {X : zX} (C : zC X cX7_readMark 6 RX7 "readMark" (some .boolean) 2 49) {al : Bool} {hi : Nat} {h : zH} {a0 : Nat} {r9 : (Int32 × zH)} (hf : FX7_readMark (xT X) a0 h = some r9) : zW X 6 (zZ X al (some (.int r9.1), hi, r9.2)) 0 0 al hi h 0 [(0, .ref a0)] [] := by
  unfold FX7_readMark at hf
  obtain ⟨_, _, hf⟩ := zbind hf
  refine z_aload_n C dX7_readMark_0 0 rfl rfl ?_
  refine z_iconst C (v := 0) dX7_readMark_1 (by decide) ?_
  refine z_aload_n C dX7_readMark_2 0 rfl rfl ?_
  refine z_getR C fl_X7_13 dX7_readMark_3 hf (fun x1 hf => ?_)
  refine z_iconst C (v := 0) dX7_readMark_6 (by decide) ?_
  refine z_iaload C dX7_readMark_7 hf (fun x2 hf => ?_)
  refine z_iconst C (v := 1) dX7_readMark_8 (by decide) ?_
  refine z_isub C dX7_readMark_9 ?_
  obtain ⟨x4, h5, g3, hf⟩ := zbind2 hf
  refine z_callV (kc' := 0) (ks' := 0) C (MX7_digit (xl X) (xD X) (xT X) (xlo X) al hi g3) (OX7_digit g3) rfl cw_X7_137 yv_X7_digit dX7_readMark_10 rfl (by decide) ⟨rfl, rfl⟩ (Nat.le_of_ble_eq_true rfl) (st := []) rfl ?_
  refine z_istore_n C dX7_readMark_13 rfl (by decide) (lv' := [(1, .int x4), (0, .ref a0)]) rfl ?_
  refine z_iload_n C dX7_readMark_14 0 rfl rfl ?_
  refine z_bipush C (v := (-9 : Int32)) dX7_readMark_15 (by decide) ?_
  refine z_icmp_ne (tgt := 22) C dX7_readMark_17 (by decide) hf (fun hf => ?_) (fun hf => ?_)
  · refine z_aload_n C dX7_readMark_22 1 rfl rfl ?_
    refine z_iload_n C dX7_readMark_23 0 rfl rfl ?_
    obtain ⟨x7, g6, hf⟩ := zbind hf
    refine z_callV (kc' := 0) (ks' := 0) C (MX7_hasRoom (xl X) (xD X) (xT X) (xlo X) al hi g6) (OX7_hasRoom g6) rfl cw_X7_134 yv_X7_hasRoom dX7_readMark_24 rfl (by decide) ⟨rfl, rfl⟩ (Nat.le_of_ble_eq_true rfl) (st := []) rfl ?_
    refine z_if_ne (tgt := 42) C dX7_readMark_27 (by decide) hf (fun hf => ?_) (fun hf => ?_)
    · refine z_aload_n C dX7_readMark_42 1 rfl rfl ?_
      refine z_iconst C (v := 0) dX7_readMark_43 (by decide) ?_
      refine z_aload_n C dX7_readMark_44 1 rfl rfl ?_
      refine z_getR C fl_X7_13 dX7_readMark_45 hf (fun x8 hf => ?_)
      refine z_iconst C (v := 1) dX7_readMark_48 (by decide) ?_
      refine z_iaload C dX7_readMark_49 hf (fun x9 hf => ?_)
      refine z_iconst C (v := 1) dX7_readMark_50 (by decide) ?_
      refine z_isub C dX7_readMark_51 ?_
      obtain ⟨x11, h12, g10, hf⟩ := zbind2 hf
      refine z_callV (kc' := 0) (ks' := 0) C (MX7_digit (xl X) (xD X) (xT X) (xlo X) al hi g10) (OX7_digit g10) rfl cw_X7_137 yv_X7_digit dX7_readMark_52 rfl (by decide) ⟨rfl, rfl⟩ (Nat.le_of_ble_eq_true rfl) (st := []) rfl ?_
      refine z_istore_n C dX7_readMark_55 rfl (by decide) (lv' := [(2, .int x11), (1, .int x4), (0, .ref a0)]) rfl ?_
      refine z_iload_n C dX7_readMark_56 0 rfl rfl ?_
      refine z_bipush C (v := (-9 : Int32)) dX7_readMark_57 (by decide) ?_
      refine z_icmp_ne (tgt := 64) C dX7_readMark_59 (by decide) hf (fun hf => ?_) (fun hf => ?_)
      · refine z_aload_n C dX7_readMark_64 2 rfl rfl ?_
        refine z_getR C fl_X7_13 dX7_readMark_65 hf (fun x13 hf => ?_)
        refine z_iload_n C dX7_readMark_68 1 rfl rfl ?_
        refine z_iload_n C dX7_readMark_69 0 rfl rfl ?_
        obtain ⟨x15, g14, hf⟩ := zbind hf
        refine z_callS (kc' := 0) (ks' := 0) C (MX7_cellAt (xl X) (xD X) (xT X) (xlo X) al hi g14) cw_X7_66 ys_X7_cellAt dX7_readMark_70 rfl (by decide) ⟨rfl, rfl⟩ (Nat.le_of_ble_eq_true rfl) (st := [.ref x13]) rfl ?_
        refine z_iaload C dX7_readMark_73 hf (fun x16 hf => ?_)
        refine z_iconst C (v := 2) dX7_readMark_74 (by decide) ?_
        refine z_icmp_ne (tgt := 90) C dX7_readMark_75 (by decide) hf (fun hf => ?_) (fun hf => ?_)
        · refine z_join (P := fun J => ∀ (x17 : Int32) (x18 : Int32) (h19 : zH), J x17 x18 h19 = some r9 → zW X 6 (zZ X al (some (.int r9.1), hi, r9.2)) 0 0 al hi h19 112 [(0, .ref a0), (1, .int x4), (2, .int x11), (3, .int x17)] [.int x18]) hf ?_ ?_
          · intro x17 x18 h19 hf
            refine z_join (P := fun J => ∀ (x21 : Int32) (x22 : Int32) (h23 : zH), J x21 x22 h23 = some r9 → zW X 6 (zZ X al (some (.int r9.1), hi, r9.2)) 0 0 al hi h23 133 [(0, .ref a0), (1, .int x4), (2, .int x11), (3, .int x17), (4, .int x21)] [.int x22]) hf ?_ ?_
            · intro x21 x22 h23 hf
              refine z_istore C dX7_readMark_133 (by decide) (lv' := [(5, .int x22), (0, .ref a0), (1, .int x4), (2, .int x11), (3, .int x17), (4, .int x21)]) rfl ?_
              refine z_iload C dX7_readMark_135 0 rfl ?_
              refine z_bipush C (v := (-9 : Int32)) dX7_readMark_137 (by decide) ?_
              refine z_icmp_ne (tgt := 144) C dX7_readMark_139 (by decide) hf (fun hf => ?_) (fun hf => ?_)
              · refine z_aload_n C dX7_readMark_144 1 rfl rfl ?_
                refine z_getR C fl_X7_13 dX7_readMark_145 hf (fun x25 hf => ?_)
                refine z_iload_n C dX7_readMark_148 2 rfl rfl ?_
                refine z_iload_n C dX7_readMark_149 3 rfl rfl ?_
                obtain ⟨x27, g26, hf⟩ := zbind hf
                refine z_callS (kc' := 0) (ks' := 0) C (MX7_cellAt (xl X) (xD X) (xT X) (xlo X) al hi g26) cw_X7_66 ys_X7_cellAt dX7_readMark_150 rfl (by decide) ⟨rfl, rfl⟩ (Nat.le_of_ble_eq_true rfl) (st := [.ref x25]) rfl ?_
                refine z_iload_n C dX7_readMark_153 4 rfl rfl ?_
                refine z_iload C dX7_readMark_154 5 rfl ?_
                refine z_iload C dX7_readMark_156 0 rfl ?_
                obtain ⟨x29, h30, g28, hf⟩ := zbind2 hf
                refine z_callS (kc' := 0) (ks' := 0) C (MX7_writeOn (xl X) (xD X) (xT X) (xlo X) al hi g28) cw_X7_144 ys_X7_writeOn dX7_readMark_158 rfl (by decide) ⟨rfl, rfl⟩ (Nat.le_of_ble_eq_true rfl) (st := []) rfl ?_
                refine z_pop C dX7_readMark_161 rfl ?_
                refine z_iconst C (v := 1) dX7_readMark_162 (by decide) ?_
                exact z_zreturn C dX7_readMark_163 (Or.inr rfl) (by cases hf; rfl)
              · refine z_iconst C (v := 0) dX7_readMark_142 (by decide) ?_
                exact z_zreturn C dX7_readMark_143 (Or.inl rfl) (by cases hf; rfl)
            · intro J24 kJ24 hf
              refine z_istore C dX7_readMark_112 (by decide) (lv' := [(4, .int x18), (0, .ref a0), (1, .int x4), (2, .int x11), (3, .int x17)]) rfl ?_
              refine z_iload C dX7_readMark_114 0 rfl ?_
              refine z_bipush C (v := (-9 : Int32)) dX7_readMark_116 (by decide) ?_
              refine z_icmp_ne (tgt := 126) C dX7_readMark_118 (by decide) hf (fun hf => ?_) (fun hf => ?_)
              · refine z_aload_n C dX7_readMark_126 1 rfl rfl ?_
                refine z_iconst C (v := 0) dX7_readMark_127 (by decide) ?_
                refine z_bipush C (v := 8) dX7_readMark_128 (by decide) ?_
                obtain ⟨x32, h33, g31, hf⟩ := zbind2 hf
                refine z_callV (kc' := 0) (ks' := 0) C (MX7_digit (xl X) (xD X) (xT X) (xlo X) al hi g31) (OX7_digit g31) rfl cw_X7_137 yv_X7_digit dX7_readMark_130 rfl (by decide) ⟨rfl, rfl⟩ (Nat.le_of_ble_eq_true rfl) (st := []) rfl ?_
                refine z_sub [1, 2, 3, 4, 0] rfl ?_
                exact kJ24 _ _ _ hf
              · refine z_bipush C (v := (-9 : Int32)) dX7_readMark_121 (by decide) ?_
                refine z_goto (tgt := 133) C dX7_readMark_123 (by decide) ?_
                refine z_sub [1, 2, 3, 4, 0] rfl ?_
                exact kJ24 _ _ _ hf
          · intro J20 kJ20 hf
            refine z_aload_n C dX7_readMark_90 2 rfl rfl ?_
            obtain ⟨x35, h36, g34, hf⟩ := zbind2 hf
            refine z_callV (kc' := 0) (ks' := 0) C (MX7_readSign (xl X) (xD X) (xT X) (xlo X) al hi g34) (OX7_readSign g34) rfl cw_X7_140 yv_X7_readSign dX7_readMark_91 rfl (by decide) ⟨rfl, rfl⟩ (Nat.le_of_ble_eq_true rfl) (st := []) rfl ?_
            refine z_istore_n C dX7_readMark_94 rfl (by decide) (lv' := [(3, .int x35), (2, .int x11), (1, .int x4), (0, .ref a0)]) rfl ?_
            refine z_iload_n C dX7_readMark_95 0 rfl rfl ?_
            refine z_bipush C (v := (-9 : Int32)) dX7_readMark_96 (by decide) ?_
            refine z_icmp_ne (tgt := 106) C dX7_readMark_98 (by decide) hf (fun hf => ?_) (fun hf => ?_)
            · refine z_aload_n C dX7_readMark_106 3 rfl rfl ?_
              refine z_iconst C (v := 0) dX7_readMark_107 (by decide) ?_
              refine z_iconst C (v := 3) dX7_readMark_108 (by decide) ?_
              obtain ⟨x38, h39, g37, hf⟩ := zbind2 hf
              refine z_callV (kc' := 0) (ks' := 0) C (MX7_digit (xl X) (xD X) (xT X) (xlo X) al hi g37) (OX7_digit g37) rfl cw_X7_137 yv_X7_digit dX7_readMark_109 rfl (by decide) ⟨rfl, rfl⟩ (Nat.le_of_ble_eq_true rfl) (st := []) rfl ?_
              refine z_sub [3, 2, 1, 0] rfl ?_
              exact kJ20 _ _ _ hf
            · refine z_bipush C (v := (-9 : Int32)) dX7_readMark_101 (by decide) ?_
              refine z_goto (tgt := 112) C dX7_readMark_103 (by decide) ?_
              refine z_sub [3, 2, 1, 0] rfl ?_
              exact kJ20 _ _ _ hf
        · refine z_aload_n C dX7_readMark_78 2 rfl rfl ?_
          refine z_dup C dX7_readMark_79 rfl ?_
          refine z_getI C fl_X7_124 dX7_readMark_80 hf (fun x40 hf => ?_)
          refine z_iconst C (v := 1) dX7_readMark_83 (by decide) ?_
          refine z_isub C dX7_readMark_84 ?_
          refine z_put C fl_X7_124 dX7_readMark_85 rfl rfl hf (fun h41 hf => ?_)
          refine z_iconst C (v := 0) dX7_readMark_88 (by decide) ?_
          exact z_zreturn C dX7_readMark_89 (Or.inl rfl) (by cases hf; rfl)
      · refine z_iconst C (v := 0) dX7_readMark_62 (by decide) ?_
        exact z_zreturn C dX7_readMark_63 (Or.inl rfl) (by cases hf; rfl)
    · refine z_aload_n C dX7_readMark_30 1 rfl rfl ?_
      refine z_dup C dX7_readMark_31 rfl ?_
      refine z_getI C fl_X7_124 dX7_readMark_32 hf (fun x42 hf => ?_)
      refine z_iconst C (v := 1) dX7_readMark_35 (by decide) ?_
      refine z_isub C dX7_readMark_36 ?_
      refine z_put C fl_X7_124 dX7_readMark_37 rfl rfl hf (fun h43 hf => ?_)
      refine z_iconst C (v := 0) dX7_readMark_40 (by decide) ?_
      exact z_zreturn C dX7_readMark_41 (Or.inl rfl) (by cases hf; rfl)
  · refine z_iconst C (v := 0) dX7_readMark_20 (by decide) ?_
    exact z_zreturn C dX7_readMark_21 (Or.inl rfl) (by cases hf; rfl)
theorem MX7_readMark (l : Launch) (D : va_G) (T : zT) (lo : Nat) (al : Bool) (hi : Nat) {h : zH} {a0 : Nat} {v9 : Int32} {h9 : zH} (hf : FX7_readMark T a0 h = some (v9, h9)) : zM l yX7_readMark (.code yX7_readMark cX7_readMark 6 (some .boolean) :: TW) ({ frames := 2, cells := 0, slots := 0, locals := 49 } : Room) D T lo al [.ref a0] hi h (some (.int v9), hi, h9) :=
  z_enter (own := RX7) (nm := "readMark") (lv := [(0, .ref a0)]) (by decide +kernel) rfl rfl (Nat.le_of_ble_eq_true rfl) rfl (fun _ _ _ _ _ _ _ _ C => BX7_readMark C hf)
theorem OX7_readMark {T : zT} {h : zH} {a0 : Nat} {r9 : (Int32 × zH)} (hf : FX7_readMark T a0 h = some r9) : ∃ fs, h a0 = some (.inr (7, fs)) := by
  obtain ⟨_, h1, _⟩ := zbind hf
  exact zo_obj h1
theorem dX7_readNumber_0 : decode cX7_readNumber 0 = .ok (.aload_n 0, 1) := by decide +kernel
theorem dX7_readNumber_1 : decode cX7_readNumber 1 = .ok (.iload_n 2, 1) := by decide +kernel
theorem dX7_readNumber_2 : decode cX7_readNumber 2 = .ok (.iload_n 3, 1) := by decide +kernel
theorem dX7_readNumber_3 : decode cX7_readNumber 3 = .ok (.invokevirtual 137, 3) := by decide +kernel
theorem dX7_readNumber_6 : decode cX7_readNumber 6 = .ok (.istore 4, 2) := by decide +kernel
theorem dX7_readNumber_8 : decode cX7_readNumber 8 = .ok (.iload 4, 2) := by decide +kernel
theorem dX7_readNumber_10 : decode cX7_readNumber 10 = .ok (.bipush (-9), 2) := by decide +kernel
theorem dX7_readNumber_12 : decode cX7_readNumber 12 = .ok (.if_icmp .ne 5, 3) := by decide +kernel
theorem dX7_readNumber_15 : decode cX7_readNumber 15 = .ok (.iconst 0, 1) := by decide +kernel
theorem dX7_readNumber_16 : decode cX7_readNumber 16 = .ok (.ireturn, 1) := by decide +kernel
theorem dX7_readNumber_17 : decode cX7_readNumber 17 = .ok (.aload_n 0, 1) := by decide +kernel
theorem dX7_readNumber_18 : decode cX7_readNumber 18 = .ok (.getfield 13, 3) := by decide +kernel
theorem dX7_readNumber_21 : decode cX7_readNumber 21 = .ok (.iload_n 1, 1) := by decide +kernel
theorem dX7_readNumber_22 : decode cX7_readNumber 22 = .ok (.iload 4, 2) := by decide +kernel
theorem dX7_readNumber_24 : decode cX7_readNumber 24 = .ok (.iastore, 1) := by decide +kernel
theorem dX7_readNumber_25 : decode cX7_readNumber 25 = .ok (.iconst 1, 1) := by decide +kernel
theorem dX7_readNumber_26 : decode cX7_readNumber 26 = .ok (.ireturn, 1) := by decide +kernel
def FX7_readNumber (T : zT) (a0 : Nat) (p0 : Int32) (p1 : Int32) (p2 : Int32) (h : zH) : Option (Int32 × zH) := (zo h a0 7).bind fun _ => zb2 (FX7_digit T a0 p1 p2 h) fun x2 h3 => if x2 = (-9 : Int32) then (some (0, h3)) else ((zgr h3 a0 7 4).bind fun x4 => (zas T h3 x4 p0 x2).bind fun h5 => some (1, h5))
set_option maxHeartbeats 4000000 in
set_option maxRecDepth 100000 in
theorem BX7_readNumber {X : zX} (C : zC X cX7_readNumber 5 RX7 "readNumber" (some .boolean) 2 49) {al : Bool} {hi : Nat} {h : zH} {a0 : Nat} {p0 : Int32} {p1 : Int32} {p2 : Int32} {r9 : (Int32 × zH)} (hf : FX7_readNumber (xT X) a0 p0 p1 p2 h = some r9) : zW X 5 (zZ X al (some (.int r9.1), hi, r9.2)) 0 0 al hi h 0 [(0, .ref a0), (1, .int p0), (2, .int p1), (3, .int p2)] [] := by
  unfold FX7_readNumber at hf
  obtain ⟨_, _, hf⟩ := zbind hf
  refine z_aload_n C dX7_readNumber_0 0 rfl rfl ?_
  refine z_iload_n C dX7_readNumber_1 2 rfl rfl ?_
  refine z_iload_n C dX7_readNumber_2 3 rfl rfl ?_
  obtain ⟨x2, h3, g1, hf⟩ := zbind2 hf
  refine z_callV (kc' := 0) (ks' := 0) C (MX7_digit (xl X) (xD X) (xT X) (xlo X) al hi g1) (OX7_digit g1) rfl cw_X7_137 yv_X7_digit dX7_readNumber_3 rfl (by decide) ⟨rfl, rfl⟩ (Nat.le_of_ble_eq_true rfl) (st := []) rfl ?_
  refine z_istore C dX7_readNumber_6 (by decide) (lv' := [(4, .int x2), (0, .ref a0), (1, .int p0), (2, .int p1), (3, .int p2)]) rfl ?_
  refine z_iload C dX7_readNumber_8 0 rfl ?_
  refine z_bipush C (v := (-9 : Int32)) dX7_readNumber_10 (by decide) ?_
  refine z_icmp_ne (tgt := 17) C dX7_readNumber_12 (by decide) hf (fun hf => ?_) (fun hf => ?_)
  · refine z_aload_n C dX7_readNumber_17 1 rfl rfl ?_
    refine z_getR C fl_X7_13 dX7_readNumber_18 hf (fun x4 hf => ?_)
    refine z_iload_n C dX7_readNumber_21 2 rfl rfl ?_
    refine z_iload C dX7_readNumber_22 0 rfl ?_
    refine z_iastore C dX7_readNumber_24 hf (fun h5 hf => ?_)
    refine z_iconst C (v := 1) dX7_readNumber_25 (by decide) ?_
    exact z_zreturn C dX7_readNumber_26 (Or.inr rfl) (by cases hf; rfl)
  · refine z_iconst C (v := 0) dX7_readNumber_15 (by decide) ?_
    exact z_zreturn C dX7_readNumber_16 (Or.inl rfl) (by cases hf; rfl)
theorem MX7_readNumber (l : Launch) (D : va_G) (T : zT) (lo : Nat) (al : Bool) (hi : Nat) {h : zH} {a0 : Nat} {p0 : Int32} {p1 : Int32} {p2 : Int32} {v9 : Int32} {h9 : zH} (hf : FX7_readNumber T a0 p0 p1 p2 h = some (v9, h9)) : zM l yX7_readNumber (.code yX7_readNumber cX7_readNumber 5 (some .boolean) :: TW) ({ frames := 2, cells := 0, slots := 0, locals := 49 } : Room) D T lo al [.ref a0, .int p0, .int p1, .int p2] hi h (some (.int v9), hi, h9) :=
  z_enter (own := RX7) (nm := "readNumber") (lv := [(0, .ref a0), (1, .int p0), (2, .int p1), (3, .int p2)]) (by decide +kernel) rfl rfl (Nat.le_of_ble_eq_true rfl) rfl (fun _ _ _ _ _ _ _ _ C => BX7_readNumber C hf)
theorem OX7_readNumber {T : zT} {h : zH} {a0 : Nat} {p0 : Int32} {p1 : Int32} {p2 : Int32} {r9 : (Int32 × zH)} (hf : FX7_readNumber T a0 p0 p1 p2 h = some r9) : ∃ fs, h a0 = some (.inr (7, fs)) := by
  obtain ⟨_, h1, _⟩ := zbind hf
  exact zo_obj h1
theorem dX7_readPen_0 : decode cX7_readPen 0 = .ok (.aload_n 0, 1) := by decide +kernel
theorem dX7_readPen_1 : decode cX7_readPen 1 = .ok (.iconst 0, 1) := by decide +kernel
theorem dX7_readPen_2 : decode cX7_readPen 2 = .ok (.iconst 1, 1) := by decide +kernel
theorem dX7_readPen_3 : decode cX7_readPen 3 = .ok (.invokevirtual 137, 3) := by decide +kernel
theorem dX7_readPen_6 : decode cX7_readPen 6 = .ok (.istore_n 1, 1) := by decide +kernel
theorem dX7_readPen_7 : decode cX7_readPen 7 = .ok (.iload_n 1, 1) := by decide +kernel
theorem dX7_readPen_8 : decode cX7_readPen 8 = .ok (.bipush (-9), 2) := by decide +kernel
theorem dX7_readPen_10 : decode cX7_readPen 10 = .ok (.if_icmp .ne 8, 3) := by decide +kernel
theorem dX7_readPen_13 : decode cX7_readPen 13 = .ok (.bipush (-9), 2) := by decide +kernel
theorem dX7_readPen_15 : decode cX7_readPen 15 = .ok (.goto 9, 3) := by decide +kernel
theorem dX7_readPen_18 : decode cX7_readPen 18 = .ok (.aload_n 0, 1) := by decide +kernel
theorem dX7_readPen_19 : decode cX7_readPen 19 = .ok (.iconst 0, 1) := by decide +kernel
theorem dX7_readPen_20 : decode cX7_readPen 20 = .ok (.iconst 3, 1) := by decide +kernel
theorem dX7_readPen_21 : decode cX7_readPen 21 = .ok (.invokevirtual 137, 3) := by decide +kernel
theorem dX7_readPen_24 : decode cX7_readPen 24 = .ok (.istore_n 2, 1) := by decide +kernel
theorem dX7_readPen_25 : decode cX7_readPen 25 = .ok (.iload_n 2, 1) := by decide +kernel
theorem dX7_readPen_26 : decode cX7_readPen 26 = .ok (.bipush (-9), 2) := by decide +kernel
theorem dX7_readPen_28 : decode cX7_readPen 28 = .ok (.if_icmp .ne 8, 3) := by decide +kernel
theorem dX7_readPen_31 : decode cX7_readPen 31 = .ok (.bipush (-9), 2) := by decide +kernel
theorem dX7_readPen_33 : decode cX7_readPen 33 = .ok (.goto 10, 3) := by decide +kernel
theorem dX7_readPen_36 : decode cX7_readPen 36 = .ok (.aload_n 0, 1) := by decide +kernel
theorem dX7_readPen_37 : decode cX7_readPen 37 = .ok (.iconst 0, 1) := by decide +kernel
theorem dX7_readPen_38 : decode cX7_readPen 38 = .ok (.bipush 8, 2) := by decide +kernel
theorem dX7_readPen_40 : decode cX7_readPen 40 = .ok (.invokevirtual 137, 3) := by decide +kernel
theorem dX7_readPen_43 : decode cX7_readPen 43 = .ok (.istore_n 3, 1) := by decide +kernel
theorem dX7_readPen_44 : decode cX7_readPen 44 = .ok (.iload_n 3, 1) := by decide +kernel
theorem dX7_readPen_45 : decode cX7_readPen 45 = .ok (.bipush (-9), 2) := by decide +kernel
theorem dX7_readPen_47 : decode cX7_readPen 47 = .ok (.if_icmp .ne 8, 3) := by decide +kernel
theorem dX7_readPen_50 : decode cX7_readPen 50 = .ok (.bipush (-9), 2) := by decide +kernel
theorem dX7_readPen_52 : decode cX7_readPen 52 = .ok (.goto 9, 3) := by decide +kernel
theorem dX7_readPen_55 : decode cX7_readPen 55 = .ok (.aload_n 0, 1) := by decide +kernel
theorem dX7_readPen_56 : decode cX7_readPen 56 = .ok (.iconst 0, 1) := by decide +kernel
theorem dX7_readPen_57 : decode cX7_readPen 57 = .ok (.iconst 1, 1) := by decide +kernel
theorem dX7_readPen_58 : decode cX7_readPen 58 = .ok (.invokevirtual 137, 3) := by decide +kernel
theorem dX7_readPen_61 : decode cX7_readPen 61 = .ok (.istore 4, 2) := by decide +kernel
theorem dX7_readPen_63 : decode cX7_readPen 63 = .ok (.iload 4, 2) := by decide +kernel
theorem dX7_readPen_65 : decode cX7_readPen 65 = .ok (.bipush (-9), 2) := by decide +kernel
theorem dX7_readPen_67 : decode cX7_readPen 67 = .ok (.if_icmp .ne 5, 3) := by decide +kernel
theorem dX7_readPen_70 : decode cX7_readPen 70 = .ok (.iconst 0, 1) := by decide +kernel
theorem dX7_readPen_71 : decode cX7_readPen 71 = .ok (.ireturn, 1) := by decide +kernel
theorem dX7_readPen_72 : decode cX7_readPen 72 = .ok (.aload_n 0, 1) := by decide +kernel
theorem dX7_readPen_73 : decode cX7_readPen 73 = .ok (.getfield 13, 3) := by decide +kernel
theorem dX7_readPen_76 : decode cX7_readPen 76 = .ok (.iload_n 1, 1) := by decide +kernel
theorem dX7_readPen_77 : decode cX7_readPen 77 = .ok (.iload_n 2, 1) := by decide +kernel
theorem dX7_readPen_78 : decode cX7_readPen 78 = .ok (.iload_n 3, 1) := by decide +kernel
theorem dX7_readPen_79 : decode cX7_readPen 79 = .ok (.iload 4, 2) := by decide +kernel
theorem dX7_readPen_81 : decode cX7_readPen 81 = .ok (.invokestatic 111, 3) := by decide +kernel
theorem dX7_readPen_84 : decode cX7_readPen 84 = .ok (.iconst 1, 1) := by decide +kernel
theorem dX7_readPen_85 : decode cX7_readPen 85 = .ok (.ireturn, 1) := by decide +kernel
def FX7_readPen (T : zT) (a0 : Nat) (h : zH) : Option (Int32 × zH) := (zo h a0 7).bind fun _ => zJ (fun (x1 : Int32) (x2 : Int32) (h3 : zH) => zJ (fun (x5 : Int32) (x6 : Int32) (h7 : zH) => zJ (fun (x9 : Int32) (x10 : Int32) (h11 : zH) => if x10 = (-9 : Int32) then (some (0, h11)) else ((zgr h11 a0 7 4).bind fun x13 => (FX7_penOn T x13 x1 x5 x9 x10 h11).bind fun h15 => some (1, h15))) (fun J12 => if x6 = (-9 : Int32) then (J12 x6 (-9 : Int32) h7) else (zb2 (FX7_digit T a0 0 1 h7) fun x17 h18 => J12 x6 x17 h18))) (fun J8 => if x2 = (-9 : Int32) then (J8 x2 (-9 : Int32) h3) else (zb2 (FX7_digit T a0 0 8 h3) fun x20 h21 => J8 x2 x20 h21))) (fun J4 => zb2 (FX7_digit T a0 0 1 h) fun x23 h24 => if x23 = (-9 : Int32) then (J4 x23 (-9 : Int32) h24) else (zb2 (FX7_digit T a0 0 3 h24) fun x26 h27 => J4 x23 x26 h27))
set_option maxHeartbeats 4000000 in
set_option maxRecDepth 100000 in
theorem BX7_readPen {X : zX} (C : zC X cX7_readPen 5 RX7 "readPen" (some .boolean) 2 49) {al : Bool} {hi : Nat} {h : zH} {a0 : Nat} {r9 : (Int32 × zH)} (hf : FX7_readPen (xT X) a0 h = some r9) : zW X 5 (zZ X al (some (.int r9.1), hi, r9.2)) 0 0 al hi h 0 [(0, .ref a0)] [] := by
  unfold FX7_readPen at hf
  obtain ⟨_, _, hf⟩ := zbind hf
  refine z_join (P := fun J => ∀ (x1 : Int32) (x2 : Int32) (h3 : zH), J x1 x2 h3 = some r9 → zW X 5 (zZ X al (some (.int r9.1), hi, r9.2)) 0 0 al hi h3 24 [(0, .ref a0), (1, .int x1)] [.int x2]) hf ?_ ?_
  · intro x1 x2 h3 hf
    refine z_join (P := fun J => ∀ (x5 : Int32) (x6 : Int32) (h7 : zH), J x5 x6 h7 = some r9 → zW X 5 (zZ X al (some (.int r9.1), hi, r9.2)) 0 0 al hi h7 43 [(0, .ref a0), (1, .int x1), (2, .int x5)] [.int x6]) hf ?_ ?_
    · intro x5 x6 h7 hf
      refine z_join (P := fun J => ∀ (x9 : Int32) (x10 : Int32) (h11 : zH), J x9 x10 h11 = some r9 → zW X 5 (zZ X al (some (.int r9.1), hi, r9.2)) 0 0 al hi h11 61 [(0, .ref a0), (1, .int x1), (2, .int x5), (3, .int x9)] [.int x10]) hf ?_ ?_
      · intro x9 x10 h11 hf
        refine z_istore C dX7_readPen_61 (by decide) (lv' := [(4, .int x10), (0, .ref a0), (1, .int x1), (2, .int x5), (3, .int x9)]) rfl ?_
        refine z_iload C dX7_readPen_63 0 rfl ?_
        refine z_bipush C (v := (-9 : Int32)) dX7_readPen_65 (by decide) ?_
        refine z_icmp_ne (tgt := 72) C dX7_readPen_67 (by decide) hf (fun hf => ?_) (fun hf => ?_)
        · refine z_aload_n C dX7_readPen_72 1 rfl rfl ?_
          refine z_getR C fl_X7_13 dX7_readPen_73 hf (fun x13 hf => ?_)
          refine z_iload_n C dX7_readPen_76 2 rfl rfl ?_
          refine z_iload_n C dX7_readPen_77 3 rfl rfl ?_
          refine z_iload_n C dX7_readPen_78 4 rfl rfl ?_
          refine z_iload C dX7_readPen_79 0 rfl ?_
          obtain ⟨h15, g14, hf⟩ := zbind hf
          refine z_callS (kc' := 0) (ks' := 0) C (MX7_penOn (xl X) (xD X) (xT X) (xlo X) al hi g14) cw_X7_111 ys_X7_penOn dX7_readPen_81 rfl (by decide) ⟨rfl, rfl⟩ (Nat.le_of_ble_eq_true rfl) (st := []) rfl ?_
          refine z_iconst C (v := 1) dX7_readPen_84 (by decide) ?_
          exact z_zreturn C dX7_readPen_85 (Or.inr rfl) (by cases hf; rfl)
        · refine z_iconst C (v := 0) dX7_readPen_70 (by decide) ?_
          exact z_zreturn C dX7_readPen_71 (Or.inl rfl) (by cases hf; rfl)
      · intro J12 kJ12 hf
        refine z_istore_n C dX7_readPen_43 rfl (by decide) (lv' := [(3, .int x6), (0, .ref a0), (1, .int x1), (2, .int x5)]) rfl ?_
        refine z_iload_n C dX7_readPen_44 0 rfl rfl ?_
        refine z_bipush C (v := (-9 : Int32)) dX7_readPen_45 (by decide) ?_
        refine z_icmp_ne (tgt := 55) C dX7_readPen_47 (by decide) hf (fun hf => ?_) (fun hf => ?_)
        · refine z_aload_n C dX7_readPen_55 1 rfl rfl ?_
          refine z_iconst C (v := 0) dX7_readPen_56 (by decide) ?_
          refine z_iconst C (v := 1) dX7_readPen_57 (by decide) ?_
          obtain ⟨x17, h18, g16, hf⟩ := zbind2 hf
          refine z_callV (kc' := 0) (ks' := 0) C (MX7_digit (xl X) (xD X) (xT X) (xlo X) al hi g16) (OX7_digit g16) rfl cw_X7_137 yv_X7_digit dX7_readPen_58 rfl (by decide) ⟨rfl, rfl⟩ (Nat.le_of_ble_eq_true rfl) (st := []) rfl ?_
          refine z_sub [1, 2, 3, 0] rfl ?_
          exact kJ12 _ _ _ hf
        · refine z_bipush C (v := (-9 : Int32)) dX7_readPen_50 (by decide) ?_
          refine z_goto (tgt := 61) C dX7_readPen_52 (by decide) ?_
          refine z_sub [1, 2, 3, 0] rfl ?_
          exact kJ12 _ _ _ hf
    · intro J8 kJ8 hf
      refine z_istore_n C dX7_readPen_24 rfl (by decide) (lv' := [(2, .int x2), (0, .ref a0), (1, .int x1)]) rfl ?_
      refine z_iload_n C dX7_readPen_25 0 rfl rfl ?_
      refine z_bipush C (v := (-9 : Int32)) dX7_readPen_26 (by decide) ?_
      refine z_icmp_ne (tgt := 36) C dX7_readPen_28 (by decide) hf (fun hf => ?_) (fun hf => ?_)
      · refine z_aload_n C dX7_readPen_36 1 rfl rfl ?_
        refine z_iconst C (v := 0) dX7_readPen_37 (by decide) ?_
        refine z_bipush C (v := 8) dX7_readPen_38 (by decide) ?_
        obtain ⟨x20, h21, g19, hf⟩ := zbind2 hf
        refine z_callV (kc' := 0) (ks' := 0) C (MX7_digit (xl X) (xD X) (xT X) (xlo X) al hi g19) (OX7_digit g19) rfl cw_X7_137 yv_X7_digit dX7_readPen_40 rfl (by decide) ⟨rfl, rfl⟩ (Nat.le_of_ble_eq_true rfl) (st := []) rfl ?_
        refine z_sub [1, 2, 0] rfl ?_
        exact kJ8 _ _ _ hf
      · refine z_bipush C (v := (-9 : Int32)) dX7_readPen_31 (by decide) ?_
        refine z_goto (tgt := 43) C dX7_readPen_33 (by decide) ?_
        refine z_sub [1, 2, 0] rfl ?_
        exact kJ8 _ _ _ hf
  · intro J4 kJ4 hf
    refine z_aload_n C dX7_readPen_0 0 rfl rfl ?_
    refine z_iconst C (v := 0) dX7_readPen_1 (by decide) ?_
    refine z_iconst C (v := 1) dX7_readPen_2 (by decide) ?_
    obtain ⟨x23, h24, g22, hf⟩ := zbind2 hf
    refine z_callV (kc' := 0) (ks' := 0) C (MX7_digit (xl X) (xD X) (xT X) (xlo X) al hi g22) (OX7_digit g22) rfl cw_X7_137 yv_X7_digit dX7_readPen_3 rfl (by decide) ⟨rfl, rfl⟩ (Nat.le_of_ble_eq_true rfl) (st := []) rfl ?_
    refine z_istore_n C dX7_readPen_6 rfl (by decide) (lv' := [(1, .int x23), (0, .ref a0)]) rfl ?_
    refine z_iload_n C dX7_readPen_7 0 rfl rfl ?_
    refine z_bipush C (v := (-9 : Int32)) dX7_readPen_8 (by decide) ?_
    refine z_icmp_ne (tgt := 18) C dX7_readPen_10 (by decide) hf (fun hf => ?_) (fun hf => ?_)
    · refine z_aload_n C dX7_readPen_18 1 rfl rfl ?_
      refine z_iconst C (v := 0) dX7_readPen_19 (by decide) ?_
      refine z_iconst C (v := 3) dX7_readPen_20 (by decide) ?_
      obtain ⟨x26, h27, g25, hf⟩ := zbind2 hf
      refine z_callV (kc' := 0) (ks' := 0) C (MX7_digit (xl X) (xD X) (xT X) (xlo X) al hi g25) (OX7_digit g25) rfl cw_X7_137 yv_X7_digit dX7_readPen_21 rfl (by decide) ⟨rfl, rfl⟩ (Nat.le_of_ble_eq_true rfl) (st := []) rfl ?_
      refine z_sub [1, 0] rfl ?_
      exact kJ4 _ _ _ hf
    · refine z_bipush C (v := (-9 : Int32)) dX7_readPen_13 (by decide) ?_
      refine z_goto (tgt := 24) C dX7_readPen_15 (by decide) ?_
      refine z_sub [1, 0] rfl ?_
      exact kJ4 _ _ _ hf
theorem MX7_readPen (l : Launch) (D : va_G) (T : zT) (lo : Nat) (al : Bool) (hi : Nat) {h : zH} {a0 : Nat} {v9 : Int32} {h9 : zH} (hf : FX7_readPen T a0 h = some (v9, h9)) : zM l yX7_readPen (.code yX7_readPen cX7_readPen 5 (some .boolean) :: TW) ({ frames := 2, cells := 0, slots := 0, locals := 49 } : Room) D T lo al [.ref a0] hi h (some (.int v9), hi, h9) :=
  z_enter (own := RX7) (nm := "readPen") (lv := [(0, .ref a0)]) (by decide +kernel) rfl rfl (Nat.le_of_ble_eq_true rfl) rfl (fun _ _ _ _ _ _ _ _ C => BX7_readPen C hf)
theorem OX7_readPen {T : zT} {h : zH} {a0 : Nat} {r9 : (Int32 × zH)} (hf : FX7_readPen T a0 h = some r9) : ∃ fs, h a0 = some (.inr (7, fs)) := by
  obtain ⟨_, h1, _⟩ := zbind hf
  exact zo_obj h1
theorem dX7_readPart_0 : decode cX7_readPart 0 = .ok (.aload_n 0, 1) := by decide +kernel
theorem dX7_readPart_1 : decode cX7_readPart 1 = .ok (.invokevirtual 148, 3) := by decide +kernel
theorem dX7_readPart_4 : decode cX7_readPart 4 = .ok (.ifCond .eq 17, 3) := by decide +kernel
theorem dX7_readPart_7 : decode cX7_readPart 7 = .ok (.aload_n 0, 1) := by decide +kernel
theorem dX7_readPart_8 : decode cX7_readPart 8 = .ok (.bipush 109, 2) := by decide +kernel
theorem dX7_readPart_10 : decode cX7_readPart 10 = .ok (.invokevirtual 129, 3) := by decide +kernel
theorem dX7_readPart_13 : decode cX7_readPart 13 = .ok (.ifCond .eq 8, 3) := by decide +kernel
theorem dX7_readPart_16 : decode cX7_readPart 16 = .ok (.aload_n 0, 1) := by decide +kernel
theorem dX7_readPart_17 : decode cX7_readPart 17 = .ok (.invokevirtual 152, 3) := by decide +kernel
theorem dX7_readPart_20 : decode cX7_readPart 20 = .ok (.ireturn, 1) := by decide +kernel
theorem dX7_readPart_21 : decode cX7_readPart 21 = .ok (.aload_n 0, 1) := by decide +kernel
theorem dX7_readPart_22 : decode cX7_readPart 22 = .ok (.bipush 103, 2) := by decide +kernel
theorem dX7_readPart_24 : decode cX7_readPart 24 = .ok (.invokevirtual 129, 3) := by decide +kernel
theorem dX7_readPart_27 : decode cX7_readPart 27 = .ok (.ifCond .eq 11, 3) := by decide +kernel
theorem dX7_readPart_30 : decode cX7_readPart 30 = .ok (.aload_n 0, 1) := by decide +kernel
theorem dX7_readPart_31 : decode cX7_readPart 31 = .ok (.iconst 3, 1) := by decide +kernel
theorem dX7_readPart_32 : decode cX7_readPart 32 = .ok (.iconst 1, 1) := by decide +kernel
theorem dX7_readPart_33 : decode cX7_readPart 33 = .ok (.iconst 3, 1) := by decide +kernel
theorem dX7_readPart_34 : decode cX7_readPart 34 = .ok (.invokevirtual 155, 3) := by decide +kernel
theorem dX7_readPart_37 : decode cX7_readPart 37 = .ok (.ireturn, 1) := by decide +kernel
theorem dX7_readPart_38 : decode cX7_readPart 38 = .ok (.aload_n 0, 1) := by decide +kernel
theorem dX7_readPart_39 : decode cX7_readPart 39 = .ok (.bipush 118, 2) := by decide +kernel
theorem dX7_readPart_41 : decode cX7_readPart 41 = .ok (.invokevirtual 129, 3) := by decide +kernel
theorem dX7_readPart_44 : decode cX7_readPart 44 = .ok (.ifCond .eq 12, 3) := by decide +kernel
theorem dX7_readPart_47 : decode cX7_readPart 47 = .ok (.aload_n 0, 1) := by decide +kernel
theorem dX7_readPart_48 : decode cX7_readPart 48 = .ok (.iconst 2, 1) := by decide +kernel
theorem dX7_readPart_49 : decode cX7_readPart 49 = .ok (.iconst 0, 1) := by decide +kernel
theorem dX7_readPart_50 : decode cX7_readPart 50 = .ok (.bipush 9, 2) := by decide +kernel
theorem dX7_readPart_52 : decode cX7_readPart 52 = .ok (.invokevirtual 155, 3) := by decide +kernel
theorem dX7_readPart_55 : decode cX7_readPart 55 = .ok (.ireturn, 1) := by decide +kernel
theorem dX7_readPart_56 : decode cX7_readPart 56 = .ok (.aload_n 0, 1) := by decide +kernel
theorem dX7_readPart_57 : decode cX7_readPart 57 = .ok (.bipush 112, 2) := by decide +kernel
theorem dX7_readPart_59 : decode cX7_readPart 59 = .ok (.invokevirtual 129, 3) := by decide +kernel
theorem dX7_readPart_62 : decode cX7_readPart 62 = .ok (.ifCond .eq 14, 3) := by decide +kernel
theorem dX7_readPart_65 : decode cX7_readPart 65 = .ok (.aload_n 0, 1) := by decide +kernel
theorem dX7_readPart_66 : decode cX7_readPart 66 = .ok (.invokevirtual 159, 3) := by decide +kernel
theorem dX7_readPart_69 : decode cX7_readPart 69 = .ok (.ifCond .eq 7, 3) := by decide +kernel
theorem dX7_readPart_72 : decode cX7_readPart 72 = .ok (.iconst 1, 1) := by decide +kernel
theorem dX7_readPart_73 : decode cX7_readPart 73 = .ok (.goto 4, 3) := by decide +kernel
theorem dX7_readPart_76 : decode cX7_readPart 76 = .ok (.iconst 0, 1) := by decide +kernel
theorem dX7_readPart_77 : decode cX7_readPart 77 = .ok (.ireturn, 1) := by decide +kernel
def FX7_readPart (T : zT) (a0 : Nat) (h : zH) : Option (Int32 × zH) := (zo h a0 7).bind fun _ => zJ (fun (h1 : zH) => zb2 (FX7_eat T a0 103 h1) fun x4 h5 => if x4 = 0 then (zb2 (FX7_eat T a0 118 h5) fun x7 h8 => if x7 = 0 then (zJ (fun (x9 : Int32) (h10 : zH) => if x9 = 0 ∨ x9 = 1 then some (x9, h10) else none) (fun J11 => zJ (fun (h12 : zH) => J11 0 h12) (fun J13 => zb2 (FX7_eat T a0 112 h8) fun x15 h16 => if x15 = 0 then (J13 h16) else (zb2 (FX7_readPen T a0 h16) fun x18 h19 => if x18 = 0 then (J13 h19) else (J11 1 h19))))) else (zb2 (FX7_readNumber T a0 2 0 9 h8) fun x21 h22 => if x21 = 0 ∨ x21 = 1 then some (x21, h22) else none)) else (zb2 (FX7_readNumber T a0 3 1 3 h5) fun x24 h25 => if x24 = 0 ∨ x24 = 1 then some (x24, h25) else none)) (fun J2 => (FX7_hasAnyRoom T a0 h).bind fun x27 => if x27 = 0 then (J2 h) else (zb2 (FX7_eat T a0 109 h) fun x29 h30 => if x29 = 0 then (J2 h30) else (zb2 (FX7_readMark T a0 h30) fun x32 h33 => if x32 = 0 ∨ x32 = 1 then some (x32, h33) else none)))
set_option maxHeartbeats 4000000 in
set_option maxRecDepth 100000 in
theorem BX7_readPart {X : zX} (C : zC X cX7_readPart 1 RX7 "readPart" (some .boolean) 3 74) {al : Bool} {hi : Nat} {h : zH} {a0 : Nat} {r9 : (Int32 × zH)} (hf : FX7_readPart (xT X) a0 h = some r9) : zW X 1 (zZ X al (some (.int r9.1), hi, r9.2)) 0 0 al hi h 0 [(0, .ref a0)] [] := by
  unfold FX7_readPart at hf
  obtain ⟨_, _, hf⟩ := zbind hf
  refine z_join (P := fun J => ∀ (h1 : zH), J h1 = some r9 → zW X 1 (zZ X al (some (.int r9.1), hi, r9.2)) 0 0 al hi h1 21 [(0, .ref a0)] []) hf ?_ ?_
  · intro h1 hf
    refine z_aload_n C dX7_readPart_21 0 rfl rfl ?_
    refine z_bipush C (v := 103) dX7_readPart_22 (by decide) ?_
    obtain ⟨x4, h5, g3, hf⟩ := zbind2 hf
    refine z_callV (kc' := 0) (ks' := 0) C (MX7_eat (xl X) (xD X) (xT X) (xlo X) al hi g3) (OX7_eat g3) rfl cw_X7_129 yv_X7_eat dX7_readPart_24 rfl (by decide) ⟨rfl, rfl⟩ (Nat.le_of_ble_eq_true rfl) (st := []) rfl ?_
    refine z_if_eq (tgt := 38) C dX7_readPart_27 (by decide) hf (fun hf => ?_) (fun hf => ?_)
    · refine z_aload_n C dX7_readPart_38 0 rfl rfl ?_
      refine z_bipush C (v := 118) dX7_readPart_39 (by decide) ?_
      obtain ⟨x7, h8, g6, hf⟩ := zbind2 hf
      refine z_callV (kc' := 0) (ks' := 0) C (MX7_eat (xl X) (xD X) (xT X) (xlo X) al hi g6) (OX7_eat g6) rfl cw_X7_129 yv_X7_eat dX7_readPart_41 rfl (by decide) ⟨rfl, rfl⟩ (Nat.le_of_ble_eq_true rfl) (st := []) rfl ?_
      refine z_if_eq (tgt := 56) C dX7_readPart_44 (by decide) hf (fun hf => ?_) (fun hf => ?_)
      · refine z_join (P := fun J => ∀ (x9 : Int32) (h10 : zH), J x9 h10 = some r9 → zW X 1 (zZ X al (some (.int r9.1), hi, r9.2)) 0 0 al hi h10 77 [] [.int x9]) hf ?_ ?_
        · intro x9 h10 hf
          refine z_ite hf (fun c hf => ?_) (fun c hf => nomatch hf)
          exact z_zreturn C dX7_readPart_77 c (by cases hf; rfl)
        · intro J11 kJ11 hf
          refine z_join (P := fun J => ∀ (h12 : zH), J h12 = some r9 → zW X 1 (zZ X al (some (.int r9.1), hi, r9.2)) 0 0 al hi h12 76 [] []) hf ?_ ?_
          · intro h12 hf
            refine z_iconst C (v := 0) dX7_readPart_76 (by decide) ?_
            exact kJ11 _ _ hf
          · intro J13 kJ13 hf
            refine z_aload_n C dX7_readPart_56 0 rfl rfl ?_
            refine z_bipush C (v := 112) dX7_readPart_57 (by decide) ?_
            obtain ⟨x15, h16, g14, hf⟩ := zbind2 hf
            refine z_callV (kc' := 0) (ks' := 0) C (MX7_eat (xl X) (xD X) (xT X) (xlo X) al hi g14) (OX7_eat g14) rfl cw_X7_129 yv_X7_eat dX7_readPart_59 rfl (by decide) ⟨rfl, rfl⟩ (Nat.le_of_ble_eq_true rfl) (st := []) rfl ?_
            refine z_if_eq (tgt := 76) C dX7_readPart_62 (by decide) hf (fun hf => ?_) (fun hf => ?_)
            · refine z_sub [] rfl ?_
              exact kJ13 _ hf
            · refine z_aload_n C dX7_readPart_65 0 rfl rfl ?_
              obtain ⟨x18, h19, g17, hf⟩ := zbind2 hf
              refine z_callV (kc' := 0) (ks' := 0) C (MX7_readPen (xl X) (xD X) (xT X) (xlo X) al hi g17) (OX7_readPen g17) rfl cw_X7_159 yv_X7_readPen dX7_readPart_66 rfl (by decide) ⟨rfl, rfl⟩ (Nat.le_of_ble_eq_true rfl) (st := []) rfl ?_
              refine z_if_eq (tgt := 76) C dX7_readPart_69 (by decide) hf (fun hf => ?_) (fun hf => ?_)
              · refine z_sub [] rfl ?_
                exact kJ13 _ hf
              · refine z_iconst C (v := 1) dX7_readPart_72 (by decide) ?_
                refine z_goto (tgt := 77) C dX7_readPart_73 (by decide) ?_
                refine z_sub [] rfl ?_
                exact kJ11 _ _ hf
      · refine z_aload_n C dX7_readPart_47 0 rfl rfl ?_
        refine z_iconst C (v := 2) dX7_readPart_48 (by decide) ?_
        refine z_iconst C (v := 0) dX7_readPart_49 (by decide) ?_
        refine z_bipush C (v := 9) dX7_readPart_50 (by decide) ?_
        obtain ⟨x21, h22, g20, hf⟩ := zbind2 hf
        refine z_callV (kc' := 0) (ks' := 0) C (MX7_readNumber (xl X) (xD X) (xT X) (xlo X) al hi g20) (OX7_readNumber g20) rfl cw_X7_155 yv_X7_readNumber dX7_readPart_52 rfl (by decide) ⟨rfl, rfl⟩ (Nat.le_of_ble_eq_true rfl) (st := []) rfl ?_
        refine z_ite hf (fun c hf => ?_) (fun c hf => nomatch hf)
        exact z_zreturn C dX7_readPart_55 c (by cases hf; rfl)
    · refine z_aload_n C dX7_readPart_30 0 rfl rfl ?_
      refine z_iconst C (v := 3) dX7_readPart_31 (by decide) ?_
      refine z_iconst C (v := 1) dX7_readPart_32 (by decide) ?_
      refine z_iconst C (v := 3) dX7_readPart_33 (by decide) ?_
      obtain ⟨x24, h25, g23, hf⟩ := zbind2 hf
      refine z_callV (kc' := 0) (ks' := 0) C (MX7_readNumber (xl X) (xD X) (xT X) (xlo X) al hi g23) (OX7_readNumber g23) rfl cw_X7_155 yv_X7_readNumber dX7_readPart_34 rfl (by decide) ⟨rfl, rfl⟩ (Nat.le_of_ble_eq_true rfl) (st := []) rfl ?_
      refine z_ite hf (fun c hf => ?_) (fun c hf => nomatch hf)
      exact z_zreturn C dX7_readPart_37 c (by cases hf; rfl)
  · intro J2 kJ2 hf
    refine z_aload_n C dX7_readPart_0 0 rfl rfl ?_
    obtain ⟨x27, g26, hf⟩ := zbind hf
    refine z_callV (kc' := 0) (ks' := 0) C (MX7_hasAnyRoom (xl X) (xD X) (xT X) (xlo X) al hi g26) (OX7_hasAnyRoom g26) rfl cw_X7_148 yv_X7_hasAnyRoom dX7_readPart_1 rfl (by decide) ⟨rfl, rfl⟩ (Nat.le_of_ble_eq_true rfl) (st := []) rfl ?_
    refine z_if_eq (tgt := 21) C dX7_readPart_4 (by decide) hf (fun hf => ?_) (fun hf => ?_)
    · exact kJ2 _ hf
    · refine z_aload_n C dX7_readPart_7 0 rfl rfl ?_
      refine z_bipush C (v := 109) dX7_readPart_8 (by decide) ?_
      obtain ⟨x29, h30, g28, hf⟩ := zbind2 hf
      refine z_callV (kc' := 0) (ks' := 0) C (MX7_eat (xl X) (xD X) (xT X) (xlo X) al hi g28) (OX7_eat g28) rfl cw_X7_129 yv_X7_eat dX7_readPart_10 rfl (by decide) ⟨rfl, rfl⟩ (Nat.le_of_ble_eq_true rfl) (st := []) rfl ?_
      refine z_if_eq (tgt := 21) C dX7_readPart_13 (by decide) hf (fun hf => ?_) (fun hf => ?_)
      · exact kJ2 _ hf
      · refine z_aload_n C dX7_readPart_16 0 rfl rfl ?_
        obtain ⟨x32, h33, g31, hf⟩ := zbind2 hf
        refine z_callV (kc' := 0) (ks' := 0) C (MX7_readMark (xl X) (xD X) (xT X) (xlo X) al hi g31) (OX7_readMark g31) rfl cw_X7_152 yv_X7_readMark dX7_readPart_17 rfl (by decide) ⟨rfl, rfl⟩ (Nat.le_of_ble_eq_true rfl) (st := []) rfl ?_
        refine z_ite hf (fun c hf => ?_) (fun c hf => nomatch hf)
        exact z_zreturn C dX7_readPart_20 c (by cases hf; rfl)
theorem MX7_readPart (l : Launch) (D : va_G) (T : zT) (lo : Nat) (al : Bool) (hi : Nat) {h : zH} {a0 : Nat} {v9 : Int32} {h9 : zH} (hf : FX7_readPart T a0 h = some (v9, h9)) : zM l yX7_readPart (.code yX7_readPart cX7_readPart 1 (some .boolean) :: TW) ({ frames := 3, cells := 0, slots := 0, locals := 74 } : Room) D T lo al [.ref a0] hi h (some (.int v9), hi, h9) :=
  z_enter (own := RX7) (nm := "readPart") (lv := [(0, .ref a0)]) (by decide +kernel) rfl rfl (Nat.le_of_ble_eq_true rfl) rfl (fun _ _ _ _ _ _ _ _ C => BX7_readPart C hf)
theorem OX7_readPart {T : zT} {h : zH} {a0 : Nat} {r9 : (Int32 × zH)} (hf : FX7_readPart T a0 h = some r9) : ∃ fs, h a0 = some (.inr (7, fs)) := by
  obtain ⟨_, h1, _⟩ := zbind hf
  exact zo_obj h1
theorem dX7_readAll_0 : decode cX7_readAll 0 = .ok (.aload_n 0, 1) := by decide +kernel
theorem dX7_readAll_1 : decode cX7_readAll 1 = .ok (.iconst 0, 1) := by decide +kernel
theorem dX7_readAll_2 : decode cX7_readAll 2 = .ok (.putfield 124, 3) := by decide +kernel
theorem dX7_readAll_5 : decode cX7_readAll 5 = .ok (.aload_n 0, 1) := by decide +kernel
theorem dX7_readAll_6 : decode cX7_readAll 6 = .ok (.bipush 83, 2) := by decide +kernel
theorem dX7_readAll_8 : decode cX7_readAll 8 = .ok (.invokevirtual 129, 3) := by decide +kernel
theorem dX7_readAll_11 : decode cX7_readAll 11 = .ok (.ifCond .ne 5, 3) := by decide +kernel
theorem dX7_readAll_14 : decode cX7_readAll 14 = .ok (.iconst 0, 1) := by decide +kernel
theorem dX7_readAll_15 : decode cX7_readAll 15 = .ok (.ireturn, 1) := by decide +kernel
theorem dX7_readAll_16 : decode cX7_readAll 16 = .ok (.aload_n 0, 1) := by decide +kernel
theorem dX7_readAll_17 : decode cX7_readAll 17 = .ok (.iconst 1, 1) := by decide +kernel
theorem dX7_readAll_18 : decode cX7_readAll 18 = .ok (.bipush 9, 2) := by decide +kernel
theorem dX7_readAll_20 : decode cX7_readAll 20 = .ok (.invokevirtual 137, 3) := by decide +kernel
theorem dX7_readAll_23 : decode cX7_readAll 23 = .ok (.istore_n 1, 1) := by decide +kernel
theorem dX7_readAll_24 : decode cX7_readAll 24 = .ok (.iload_n 1, 1) := by decide +kernel
theorem dX7_readAll_25 : decode cX7_readAll 25 = .ok (.bipush (-9), 2) := by decide +kernel
theorem dX7_readAll_27 : decode cX7_readAll 27 = .ok (.if_icmp .ne 8, 3) := by decide +kernel
theorem dX7_readAll_30 : decode cX7_readAll 30 = .ok (.bipush (-9), 2) := by decide +kernel
theorem dX7_readAll_32 : decode cX7_readAll 32 = .ok (.goto 10, 3) := by decide +kernel
theorem dX7_readAll_35 : decode cX7_readAll 35 = .ok (.aload_n 0, 1) := by decide +kernel
theorem dX7_readAll_36 : decode cX7_readAll 36 = .ok (.iconst 1, 1) := by decide +kernel
theorem dX7_readAll_37 : decode cX7_readAll 37 = .ok (.bipush 9, 2) := by decide +kernel
theorem dX7_readAll_39 : decode cX7_readAll 39 = .ok (.invokevirtual 137, 3) := by decide +kernel
theorem dX7_readAll_42 : decode cX7_readAll 42 = .ok (.istore_n 2, 1) := by decide +kernel
theorem dX7_readAll_43 : decode cX7_readAll 43 = .ok (.iload_n 2, 1) := by decide +kernel
theorem dX7_readAll_44 : decode cX7_readAll 44 = .ok (.bipush (-9), 2) := by decide +kernel
theorem dX7_readAll_46 : decode cX7_readAll 46 = .ok (.if_icmp .ne 5, 3) := by decide +kernel
theorem dX7_readAll_49 : decode cX7_readAll 49 = .ok (.iconst 0, 1) := by decide +kernel
theorem dX7_readAll_50 : decode cX7_readAll 50 = .ok (.ireturn, 1) := by decide +kernel
theorem dX7_readAll_51 : decode cX7_readAll 51 = .ok (.aload_n 0, 1) := by decide +kernel
theorem dX7_readAll_52 : decode cX7_readAll 52 = .ok (.getfield 13, 3) := by decide +kernel
theorem dX7_readAll_55 : decode cX7_readAll 55 = .ok (.iload_n 1, 1) := by decide +kernel
theorem dX7_readAll_56 : decode cX7_readAll 56 = .ok (.iload_n 2, 1) := by decide +kernel
theorem dX7_readAll_57 : decode cX7_readAll 57 = .ok (.invokestatic 50, 3) := by decide +kernel
theorem dX7_readAll_60 : decode cX7_readAll 60 = .ok (.aload_n 0, 1) := by decide +kernel
theorem dX7_readAll_61 : decode cX7_readAll 61 = .ok (.getfield 124, 3) := by decide +kernel
theorem dX7_readAll_64 : decode cX7_readAll 64 = .ok (.aload_n 0, 1) := by decide +kernel
theorem dX7_readAll_65 : decode cX7_readAll 65 = .ok (.getfield 117, 3) := by decide +kernel
theorem dX7_readAll_68 : decode cX7_readAll 68 = .ok (.if_icmp .ge 12, 3) := by decide +kernel
theorem dX7_readAll_71 : decode cX7_readAll 71 = .ok (.aload_n 0, 1) := by decide +kernel
theorem dX7_readAll_72 : decode cX7_readAll 72 = .ok (.invokevirtual 162, 3) := by decide +kernel
theorem dX7_readAll_75 : decode cX7_readAll 75 = .ok (.ifCond .ne (-15), 3) := by decide +kernel
theorem dX7_readAll_78 : decode cX7_readAll 78 = .ok (.iconst 0, 1) := by decide +kernel
theorem dX7_readAll_79 : decode cX7_readAll 79 = .ok (.ireturn, 1) := by decide +kernel
theorem dX7_readAll_80 : decode cX7_readAll 80 = .ok (.iconst 1, 1) := by decide +kernel
theorem dX7_readAll_81 : decode cX7_readAll 81 = .ok (.ireturn, 1) := by decide +kernel
def LX7_readAll_60 {ρ : Type} (T : zT) (x12 : Nat) (K0 : zH → Option ρ) (K1 : zH → Option ρ) : Nat → zH → Option ρ
  | 0, _ => none
  | k + 1, h13 => (zgi h13 x12 7 3).bind fun x14 => (zgi h13 x12 7 2).bind fun x15 => if x15 ≤ x14 then (K1 h13) else (zb2 (FX7_readPart T x12 h13) fun x17 h18 => if x17 = 0 then (K0 h18) else (LX7_readAll_60 T x12 K0 K1 k h18))
set_option maxHeartbeats 4000000 in
set_option maxRecDepth 100000 in
theorem LX7_readAll_60_ok {X : zX} (C : zC X cX7_readAll 3 RX7 "readAll" (some .boolean) 4 94) {Z : State → Prop} {al : Bool} {hi : Nat} {ρ : Type} {r9 : ρ} {x12 : Nat} {K0 : zH → Option ρ} {K1 : zH → Option ρ} (hK0 : ∀ (g9 : zH), K0 g9 = some r9 → zW X 3 Z 0 0 al hi g9 78 [] []) (hK1 : ∀ (g9 : zH), K1 g9 = some r9 → zW X 3 Z 0 0 al hi g9 80 [] []) : ∀ (k : Nat) (h13 : zH), LX7_readAll_60 (xT X) x12 K0 K1 k h13 = some r9 → zW X 3 Z 0 0 al hi h13 60 [(0, .ref x12)] [] := by
  intro k
  induction k with
  | zero =>
    intro h13 hf
    have hf : none = some r9 := hf
    cases hf
  | succ k ih =>
    intro h13 hf
    rw [LX7_readAll_60.eq_2] at hf
    refine z_aload_n C dX7_readAll_60 0 rfl rfl ?_
    refine z_getI C fl_X7_124 dX7_readAll_61 hf (fun x14 hf => ?_)
    refine z_aload_n C dX7_readAll_64 0 rfl rfl ?_
    refine z_getI C fl_X7_117 dX7_readAll_65 hf (fun x15 hf => ?_)
    refine z_icmp_ge (tgt := 80) C dX7_readAll_68 (by decide) hf (fun hf => ?_) (fun hf => ?_)
    · refine z_sub [] rfl ?_
      exact hK1 _ hf
    · refine z_aload_n C dX7_readAll_71 0 rfl rfl ?_
      obtain ⟨x17, h18, g16, hf⟩ := zbind2 hf
      refine z_callV (kc' := 0) (ks' := 0) C (MX7_readPart (xl X) (xD X) (xT X) (xlo X) al hi g16) (OX7_readPart g16) rfl cw_X7_162 yv_X7_readPart dX7_readAll_72 rfl (by decide) ⟨rfl, rfl⟩ (Nat.le_of_ble_eq_true rfl) (st := []) rfl ?_
      refine z_if_ne (tgt := 60) C dX7_readAll_75 (by decide) hf (fun hf => ?_) (fun hf => ?_)
      · exact ih _ hf
      · refine z_sub [] rfl ?_
        exact hK0 _ hf
def FX7_readAll (T : zT) (a0 : Nat) (h : zH) : Option (Int32 × zH) := (zo h a0 7).bind fun _ => (zpv h a0 7 3 (.int 0)).bind fun h1 => zb2 (FX7_eat T a0 83 h1) fun x3 h4 => if x3 = 0 then (some (0, h4)) else (zJ (fun (x5 : Int32) (x6 : Int32) (h7 : zH) => if x6 = (-9 : Int32) then (some (0, h7)) else ((zgr h7 a0 7 4).bind fun x9 => (FX7_clear T x9 x5 x6 h7).bind fun h11 => LX7_readAll_60 T a0 (fun (h19 : zH) => some (0, h19)) (fun (h20 : zH) => some (1, h20)) FUEL h11)) (fun J8 => zb2 (FX7_digit T a0 1 9 h4) fun x22 h23 => if x22 = (-9 : Int32) then (J8 x22 (-9 : Int32) h23) else (zb2 (FX7_digit T a0 1 9 h23) fun x25 h26 => J8 x22 x25 h26)))
set_option maxHeartbeats 4000000 in
set_option maxRecDepth 100000 in
theorem BX7_readAll {X : zX} (C : zC X cX7_readAll 3 RX7 "readAll" (some .boolean) 4 94) {al : Bool} {hi : Nat} {h : zH} {a0 : Nat} {r9 : (Int32 × zH)} (hf : FX7_readAll (xT X) a0 h = some r9) : zW X 3 (zZ X al (some (.int r9.1), hi, r9.2)) 0 0 al hi h 0 [(0, .ref a0)] [] := by
  unfold FX7_readAll at hf
  obtain ⟨_, _, hf⟩ := zbind hf
  refine z_aload_n C dX7_readAll_0 0 rfl rfl ?_
  refine z_iconst C (v := 0) dX7_readAll_1 (by decide) ?_
  refine z_put C fl_X7_124 dX7_readAll_2 rfl rfl hf (fun h1 hf => ?_)
  refine z_aload_n C dX7_readAll_5 0 rfl rfl ?_
  refine z_bipush C (v := 83) dX7_readAll_6 (by decide) ?_
  obtain ⟨x3, h4, g2, hf⟩ := zbind2 hf
  refine z_callV (kc' := 0) (ks' := 0) C (MX7_eat (xl X) (xD X) (xT X) (xlo X) al hi g2) (OX7_eat g2) rfl cw_X7_129 yv_X7_eat dX7_readAll_8 rfl (by decide) ⟨rfl, rfl⟩ (Nat.le_of_ble_eq_true rfl) (st := []) rfl ?_
  refine z_if_ne (tgt := 16) C dX7_readAll_11 (by decide) hf (fun hf => ?_) (fun hf => ?_)
  · refine z_join (P := fun J => ∀ (x5 : Int32) (x6 : Int32) (h7 : zH), J x5 x6 h7 = some r9 → zW X 3 (zZ X al (some (.int r9.1), hi, r9.2)) 0 0 al hi h7 42 [(0, .ref a0), (1, .int x5)] [.int x6]) hf ?_ ?_
    · intro x5 x6 h7 hf
      refine z_istore_n C dX7_readAll_42 rfl (by decide) (lv' := [(2, .int x6), (0, .ref a0), (1, .int x5)]) rfl ?_
      refine z_iload_n C dX7_readAll_43 0 rfl rfl ?_
      refine z_bipush C (v := (-9 : Int32)) dX7_readAll_44 (by decide) ?_
      refine z_icmp_ne (tgt := 51) C dX7_readAll_46 (by decide) hf (fun hf => ?_) (fun hf => ?_)
      · refine z_aload_n C dX7_readAll_51 1 rfl rfl ?_
        refine z_getR C fl_X7_13 dX7_readAll_52 hf (fun x9 hf => ?_)
        refine z_iload_n C dX7_readAll_55 2 rfl rfl ?_
        refine z_iload_n C dX7_readAll_56 0 rfl rfl ?_
        obtain ⟨h11, g10, hf⟩ := zbind hf
        refine z_callS (kc' := 0) (ks' := 0) C (MX7_clear (xl X) (xD X) (xT X) (xlo X) al hi g10) cw_X7_50 ys_X7_clear dX7_readAll_57 rfl (by decide) ⟨rfl, rfl⟩ (Nat.le_of_ble_eq_true rfl) (st := []) rfl ?_
        refine z_sub [1] rfl ?_
        refine LX7_readAll_60_ok C ?_ ?_ FUEL _ hf
        · intro h19 hf
          refine z_iconst C (v := 0) dX7_readAll_78 (by decide) ?_
          exact z_zreturn C dX7_readAll_79 (Or.inl rfl) (by cases hf; rfl)
        · intro h20 hf
          refine z_iconst C (v := 1) dX7_readAll_80 (by decide) ?_
          exact z_zreturn C dX7_readAll_81 (Or.inr rfl) (by cases hf; rfl)
      · refine z_iconst C (v := 0) dX7_readAll_49 (by decide) ?_
        exact z_zreturn C dX7_readAll_50 (Or.inl rfl) (by cases hf; rfl)
    · intro J8 kJ8 hf
      refine z_aload_n C dX7_readAll_16 0 rfl rfl ?_
      refine z_iconst C (v := 1) dX7_readAll_17 (by decide) ?_
      refine z_bipush C (v := 9) dX7_readAll_18 (by decide) ?_
      obtain ⟨x22, h23, g21, hf⟩ := zbind2 hf
      refine z_callV (kc' := 0) (ks' := 0) C (MX7_digit (xl X) (xD X) (xT X) (xlo X) al hi g21) (OX7_digit g21) rfl cw_X7_137 yv_X7_digit dX7_readAll_20 rfl (by decide) ⟨rfl, rfl⟩ (Nat.le_of_ble_eq_true rfl) (st := []) rfl ?_
      refine z_istore_n C dX7_readAll_23 rfl (by decide) (lv' := [(1, .int x22), (0, .ref a0)]) rfl ?_
      refine z_iload_n C dX7_readAll_24 0 rfl rfl ?_
      refine z_bipush C (v := (-9 : Int32)) dX7_readAll_25 (by decide) ?_
      refine z_icmp_ne (tgt := 35) C dX7_readAll_27 (by decide) hf (fun hf => ?_) (fun hf => ?_)
      · refine z_aload_n C dX7_readAll_35 1 rfl rfl ?_
        refine z_iconst C (v := 1) dX7_readAll_36 (by decide) ?_
        refine z_bipush C (v := 9) dX7_readAll_37 (by decide) ?_
        obtain ⟨x25, h26, g24, hf⟩ := zbind2 hf
        refine z_callV (kc' := 0) (ks' := 0) C (MX7_digit (xl X) (xD X) (xT X) (xlo X) al hi g24) (OX7_digit g24) rfl cw_X7_137 yv_X7_digit dX7_readAll_39 rfl (by decide) ⟨rfl, rfl⟩ (Nat.le_of_ble_eq_true rfl) (st := []) rfl ?_
        refine z_sub [1, 0] rfl ?_
        exact kJ8 _ _ _ hf
      · refine z_bipush C (v := (-9 : Int32)) dX7_readAll_30 (by decide) ?_
        refine z_goto (tgt := 42) C dX7_readAll_32 (by decide) ?_
        refine z_sub [1, 0] rfl ?_
        exact kJ8 _ _ _ hf
  · refine z_iconst C (v := 0) dX7_readAll_14 (by decide) ?_
    exact z_zreturn C dX7_readAll_15 (Or.inl rfl) (by cases hf; rfl)
theorem MX7_readAll (l : Launch) (D : va_G) (T : zT) (lo : Nat) (al : Bool) (hi : Nat) {h : zH} {a0 : Nat} {v9 : Int32} {h9 : zH} (hf : FX7_readAll T a0 h = some (v9, h9)) : zM l yX7_readAll (.code yX7_readAll cX7_readAll 3 (some .boolean) :: TW) ({ frames := 4, cells := 0, slots := 0, locals := 94 } : Room) D T lo al [.ref a0] hi h (some (.int v9), hi, h9) :=
  z_enter (own := RX7) (nm := "readAll") (lv := [(0, .ref a0)]) (by decide +kernel) rfl rfl (Nat.le_of_ble_eq_true rfl) rfl (fun _ _ _ _ _ _ _ _ C => BX7_readAll C hf)
theorem OX7_readAll {T : zT} {h : zH} {a0 : Nat} {r9 : (Int32 × zH)} (hf : FX7_readAll T a0 h = some r9) : ∃ fs, h a0 = some (.inr (7, fs)) := by
  obtain ⟨_, h1, _⟩ := zbind hf
  exact zo_obj h1
theorem dX7_errorPosition_0 : decode cX7_errorPosition 0 = .ok (.aload_n 0, 1) := by decide +kernel
theorem dX7_errorPosition_1 : decode cX7_errorPosition 1 = .ok (.iconst 0, 1) := by decide +kernel
theorem dX7_errorPosition_2 : decode cX7_errorPosition 2 = .ok (.putfield 54, 3) := by decide +kernel
theorem dX7_errorPosition_5 : decode cX7_errorPosition 5 = .ok (.aload_n 0, 1) := by decide +kernel
theorem dX7_errorPosition_6 : decode cX7_errorPosition 6 = .ok (.invokevirtual 165, 3) := by decide +kernel
theorem dX7_errorPosition_9 : decode cX7_errorPosition 9 = .ok (.ifCond .eq 8, 3) := by decide +kernel
theorem dX7_errorPosition_12 : decode cX7_errorPosition 12 = .ok (.bipush (-9), 2) := by decide +kernel
theorem dX7_errorPosition_14 : decode cX7_errorPosition 14 = .ok (.goto 7, 3) := by decide +kernel
theorem dX7_errorPosition_17 : decode cX7_errorPosition 17 = .ok (.aload_n 0, 1) := by decide +kernel
theorem dX7_errorPosition_18 : decode cX7_errorPosition 18 = .ok (.getfield 124, 3) := by decide +kernel
theorem dX7_errorPosition_21 : decode cX7_errorPosition 21 = .ok (.ireturn, 1) := by decide +kernel
def FX7_errorPosition (T : zT) (a0 : Nat) (h : zH) : Option (Int32 × zH) := (zo h a0 7).bind fun _ => zJ (fun (x1 : Int32) (h2 : zH) => some (x1, h2)) (fun J3 => (zpv h a0 7 0 (.int 0)).bind fun h4 => zb2 (FX7_readAll T a0 h4) fun x6 h7 => if x6 = 0 then ((zgi h7 a0 7 3).bind fun x8 => J3 x8 h7) else (J3 (-9 : Int32) h7))
set_option maxHeartbeats 4000000 in
set_option maxRecDepth 100000 in
theorem BX7_errorPosition {X : zX} (C : zC X cX7_errorPosition 1 RX7 "errorPosition" (some .int) 5 116) {al : Bool} {hi : Nat} {h : zH} {a0 : Nat} {r9 : (Int32 × zH)} (hf : FX7_errorPosition (xT X) a0 h = some r9) : zW X 1 (zZ X al (some (.int r9.1), hi, r9.2)) 0 0 al hi h 0 [(0, .ref a0)] [] := by
  unfold FX7_errorPosition at hf
  obtain ⟨_, _, hf⟩ := zbind hf
  refine z_join (P := fun J => ∀ (x1 : Int32) (h2 : zH), J x1 h2 = some r9 → zW X 1 (zZ X al (some (.int r9.1), hi, r9.2)) 0 0 al hi h2 21 [] [.int x1]) hf ?_ ?_
  · intro x1 h2 hf
    exact z_ireturn C dX7_errorPosition_21 (by cases hf; rfl)
  · intro J3 kJ3 hf
    refine z_aload_n C dX7_errorPosition_0 0 rfl rfl ?_
    refine z_iconst C (v := 0) dX7_errorPosition_1 (by decide) ?_
    refine z_put C fl_X7_54 dX7_errorPosition_2 rfl rfl hf (fun h4 hf => ?_)
    refine z_aload_n C dX7_errorPosition_5 0 rfl rfl ?_
    obtain ⟨x6, h7, g5, hf⟩ := zbind2 hf
    refine z_callV (kc' := 0) (ks' := 0) C (MX7_readAll (xl X) (xD X) (xT X) (xlo X) al hi g5) (OX7_readAll g5) rfl cw_X7_165 yv_X7_readAll dX7_errorPosition_6 rfl (by decide) ⟨rfl, rfl⟩ (Nat.le_of_ble_eq_true rfl) (st := []) rfl ?_
    refine z_if_eq (tgt := 17) C dX7_errorPosition_9 (by decide) hf (fun hf => ?_) (fun hf => ?_)
    · refine z_aload_n C dX7_errorPosition_17 0 rfl rfl ?_
      refine z_getI C fl_X7_124 dX7_errorPosition_18 hf (fun x8 hf => ?_)
      refine z_sub [] rfl ?_
      exact kJ3 _ _ hf
    · refine z_bipush C (v := (-9 : Int32)) dX7_errorPosition_12 (by decide) ?_
      refine z_goto (tgt := 21) C dX7_errorPosition_14 (by decide) ?_
      refine z_sub [] rfl ?_
      exact kJ3 _ _ hf
theorem MX7_errorPosition (l : Launch) (D : va_G) (T : zT) (lo : Nat) (al : Bool) (hi : Nat) {h : zH} {a0 : Nat} {v9 : Int32} {h9 : zH} (hf : FX7_errorPosition T a0 h = some (v9, h9)) : zM l yX7_errorPosition (.code yX7_errorPosition cX7_errorPosition 1 (some .int) :: TW) ({ frames := 5, cells := 0, slots := 0, locals := 116 } : Room) D T lo al [.ref a0] hi h (some (.int v9), hi, h9) :=
  z_enter (own := RX7) (nm := "errorPosition") (lv := [(0, .ref a0)]) (by decide +kernel) rfl rfl (Nat.le_of_ble_eq_true rfl) rfl (fun _ _ _ _ _ _ _ _ C => BX7_errorPosition C hf)
theorem OX7_errorPosition {T : zT} {h : zH} {a0 : Nat} {r9 : (Int32 × zH)} (hf : FX7_errorPosition T a0 h = some r9) : ∃ fs, h a0 = some (.inr (7, fs)) := by
  obtain ⟨_, h1, _⟩ := zbind hf
  exact zo_obj h1
theorem dX7_load_0 : decode cX7_load 0 = .ok (.aload_n 0, 1) := by decide +kernel
theorem dX7_load_1 : decode cX7_load 1 = .ok (.aload_n 0, 1) := by decide +kernel
theorem dX7_load_2 : decode cX7_load 2 = .ok (.invokevirtual 165, 3) := by decide +kernel
theorem dX7_load_5 : decode cX7_load 5 = .ok (.ifCond .eq 7, 3) := by decide +kernel
theorem dX7_load_8 : decode cX7_load 8 = .ok (.iconst 0, 1) := by decide +kernel
theorem dX7_load_9 : decode cX7_load 9 = .ok (.goto 4, 3) := by decide +kernel
theorem dX7_load_12 : decode cX7_load 12 = .ok (.iconst 1, 1) := by decide +kernel
theorem dX7_load_13 : decode cX7_load 13 = .ok (.invokevirtual 120, 3) := by decide +kernel
theorem dX7_load_16 : decode cX7_load 16 = .ok (.ifCond .eq 5, 3) := by decide +kernel
theorem dX7_load_19 : decode cX7_load 19 = .ok (.iconst 0, 1) := by decide +kernel
theorem dX7_load_20 : decode cX7_load 20 = .ok (.ireturn, 1) := by decide +kernel
theorem dX7_load_21 : decode cX7_load 21 = .ok (.aload_n 0, 1) := by decide +kernel
theorem dX7_load_22 : decode cX7_load 22 = .ok (.getfield 13, 3) := by decide +kernel
theorem dX7_load_25 : decode cX7_load 25 = .ok (.iconst 0, 1) := by decide +kernel
theorem dX7_load_26 : decode cX7_load 26 = .ok (.aload_n 0, 1) := by decide +kernel
theorem dX7_load_27 : decode cX7_load 27 = .ok (.getfield 16, 3) := by decide +kernel
theorem dX7_load_30 : decode cX7_load 30 = .ok (.iconst 0, 1) := by decide +kernel
theorem dX7_load_31 : decode cX7_load 31 = .ok (.invokestatic 107, 3) := by decide +kernel
theorem dX7_load_34 : decode cX7_load 34 = .ok (.aload_n 0, 1) := by decide +kernel
theorem dX7_load_35 : decode cX7_load 35 = .ok (.iconst 0, 1) := by decide +kernel
theorem dX7_load_36 : decode cX7_load 36 = .ok (.putfield 168, 3) := by decide +kernel
theorem dX7_load_39 : decode cX7_load 39 = .ok (.aload_n 0, 1) := by decide +kernel
theorem dX7_load_40 : decode cX7_load 40 = .ok (.getfield 31, 3) := by decide +kernel
theorem dX7_load_43 : decode cX7_load 43 = .ok (.iconst 0, 1) := by decide +kernel
theorem dX7_load_44 : decode cX7_load 44 = .ok (.iconst 0, 1) := by decide +kernel
theorem dX7_load_45 : decode cX7_load 45 = .ok (.bastore, 1) := by decide +kernel
theorem dX7_load_46 : decode cX7_load 46 = .ok (.aload_n 0, 1) := by decide +kernel
theorem dX7_load_47 : decode cX7_load 47 = .ok (.getfield 31, 3) := by decide +kernel
theorem dX7_load_50 : decode cX7_load 50 = .ok (.iconst 1, 1) := by decide +kernel
theorem dX7_load_51 : decode cX7_load 51 = .ok (.iconst 0, 1) := by decide +kernel
theorem dX7_load_52 : decode cX7_load 52 = .ok (.bastore, 1) := by decide +kernel
theorem dX7_load_53 : decode cX7_load 53 = .ok (.aload_n 0, 1) := by decide +kernel
theorem dX7_load_54 : decode cX7_load 54 = .ok (.getfield 16, 3) := by decide +kernel
theorem dX7_load_57 : decode cX7_load 57 = .ok (.invokestatic 171, 3) := by decide +kernel
theorem dX7_load_60 : decode cX7_load 60 = .ok (.ireturn, 1) := by decide +kernel
def FX7_load (T : zT) (a0 : Nat) (h : zH) : Option (Int32 × zH) := (zo h a0 7).bind fun _ => zJ (fun (x1 : Int32) (x2 : Nat) (h3 : zH) => zb2 (FX7_refused T x2 x1 h3) fun x6 h7 => if x6 = 0 then ((zgr h7 a0 7 4).bind fun x8 => (zgr h7 a0 7 5).bind fun x9 => (FX7_copyPage T x8 0 x9 0 h7).bind fun h11 => (zpv h11 a0 7 9 (.int 0)).bind fun h12 => (zgr h12 a0 7 11).bind fun x13 => (zbs T h12 x13 0 0).bind fun h14 => (zgr h14 a0 7 11).bind fun x15 => (zbs T h14 x15 1 0).bind fun h16 => (zgr h16 a0 7 5).bind fun x17 => (FX7_marksOf T x17 h16).bind fun x19 => some (x19, h16)) else (some (0, h7))) (fun J4 => zb2 (FX7_readAll T a0 h) fun x21 h22 => if x21 = 0 then (J4 1 a0 h22) else (J4 0 a0 h22))
set_option maxHeartbeats 4000000 in
set_option maxRecDepth 100000 in
theorem BX7_load {X : zX} (C : zC X cX7_load 1 RX7 "load" (some .int) 5 116) {al : Bool} {hi : Nat} {h : zH} {a0 : Nat} {r9 : (Int32 × zH)} (hf : FX7_load (xT X) a0 h = some r9) : zW X 1 (zZ X al (some (.int r9.1), hi, r9.2)) 0 0 al hi h 0 [(0, .ref a0)] [] := by
  unfold FX7_load at hf
  obtain ⟨_, _, hf⟩ := zbind hf
  refine z_join (P := fun J => ∀ (x1 : Int32) (x2 : Nat) (h3 : zH), J x1 x2 h3 = some r9 → zW X 1 (zZ X al (some (.int r9.1), hi, r9.2)) 0 0 al hi h3 13 [(0, .ref a0)] [.int x1, .ref x2]) hf ?_ ?_
  · intro x1 x2 h3 hf
    obtain ⟨x6, h7, g5, hf⟩ := zbind2 hf
    refine z_callV (kc' := 0) (ks' := 0) C (MX7_refused (xl X) (xD X) (xT X) (xlo X) al hi g5) (OX7_refused g5) rfl cw_X7_120 yv_X7_refused dX7_load_13 rfl (by decide) ⟨rfl, rfl⟩ (Nat.le_of_ble_eq_true rfl) (st := []) rfl ?_
    refine z_if_eq (tgt := 21) C dX7_load_16 (by decide) hf (fun hf => ?_) (fun hf => ?_)
    · refine z_aload_n C dX7_load_21 0 rfl rfl ?_
      refine z_getR C fl_X7_13 dX7_load_22 hf (fun x8 hf => ?_)
      refine z_iconst C (v := 0) dX7_load_25 (by decide) ?_
      refine z_aload_n C dX7_load_26 0 rfl rfl ?_
      refine z_getR C fl_X7_16 dX7_load_27 hf (fun x9 hf => ?_)
      refine z_iconst C (v := 0) dX7_load_30 (by decide) ?_
      obtain ⟨h11, g10, hf⟩ := zbind hf
      refine z_callS (kc' := 0) (ks' := 0) C (MX7_copyPage (xl X) (xD X) (xT X) (xlo X) al hi g10) cw_X7_107 ys_X7_copyPage dX7_load_31 rfl (by decide) ⟨rfl, rfl⟩ (Nat.le_of_ble_eq_true rfl) (st := []) rfl ?_
      refine z_aload_n C dX7_load_34 0 rfl rfl ?_
      refine z_iconst C (v := 0) dX7_load_35 (by decide) ?_
      refine z_put C fl_X7_168 dX7_load_36 rfl rfl hf (fun h12 hf => ?_)
      refine z_aload_n C dX7_load_39 0 rfl rfl ?_
      refine z_getR C fl_X7_31 dX7_load_40 hf (fun x13 hf => ?_)
      refine z_iconst C (v := 0) dX7_load_43 (by decide) ?_
      refine z_iconst C (v := 0) dX7_load_44 (by decide) ?_
      refine z_bastore C dX7_load_45 hf (fun h14 hf => ?_)
      refine z_aload_n C dX7_load_46 0 rfl rfl ?_
      refine z_getR C fl_X7_31 dX7_load_47 hf (fun x15 hf => ?_)
      refine z_iconst C (v := 1) dX7_load_50 (by decide) ?_
      refine z_iconst C (v := 0) dX7_load_51 (by decide) ?_
      refine z_bastore C dX7_load_52 hf (fun h16 hf => ?_)
      refine z_aload_n C dX7_load_53 0 rfl rfl ?_
      refine z_getR C fl_X7_16 dX7_load_54 hf (fun x17 hf => ?_)
      obtain ⟨x19, g18, hf⟩ := zbind hf
      refine z_callS (kc' := 0) (ks' := 0) C (MX7_marksOf (xl X) (xD X) (xT X) (xlo X) al hi g18) cw_X7_171 ys_X7_marksOf dX7_load_57 rfl (by decide) ⟨rfl, rfl⟩ (Nat.le_of_ble_eq_true rfl) (st := []) rfl ?_
      exact z_ireturn C dX7_load_60 (by cases hf; rfl)
    · refine z_iconst C (v := 0) dX7_load_19 (by decide) ?_
      exact z_ireturn C dX7_load_20 (by cases hf; rfl)
  · intro J4 kJ4 hf
    refine z_aload_n C dX7_load_0 0 rfl rfl ?_
    refine z_aload_n C dX7_load_1 0 rfl rfl ?_
    obtain ⟨x21, h22, g20, hf⟩ := zbind2 hf
    refine z_callV (kc' := 0) (ks' := 0) C (MX7_readAll (xl X) (xD X) (xT X) (xlo X) al hi g20) (OX7_readAll g20) rfl cw_X7_165 yv_X7_readAll dX7_load_2 rfl (by decide) ⟨rfl, rfl⟩ (Nat.le_of_ble_eq_true rfl) (st := [.ref a0]) rfl ?_
    refine z_if_eq (tgt := 12) C dX7_load_5 (by decide) hf (fun hf => ?_) (fun hf => ?_)
    · refine z_iconst C (v := 1) dX7_load_12 (by decide) ?_
      exact kJ4 _ _ _ hf
    · refine z_iconst C (v := 0) dX7_load_8 (by decide) ?_
      refine z_goto (tgt := 13) C dX7_load_9 (by decide) ?_
      exact kJ4 _ _ _ hf
theorem MX7_load (l : Launch) (D : va_G) (T : zT) (lo : Nat) (al : Bool) (hi : Nat) {h : zH} {a0 : Nat} {v9 : Int32} {h9 : zH} (hf : FX7_load T a0 h = some (v9, h9)) : zM l yX7_load (.code yX7_load cX7_load 1 (some .int) :: TW) ({ frames := 5, cells := 0, slots := 0, locals := 116 } : Room) D T lo al [.ref a0] hi h (some (.int v9), hi, h9) :=
  z_enter (own := RX7) (nm := "load") (lv := [(0, .ref a0)]) (by decide +kernel) rfl rfl (Nat.le_of_ble_eq_true rfl) rfl (fun _ _ _ _ _ _ _ _ C => BX7_load C hf)
theorem OX7_load {T : zT} {h : zH} {a0 : Nat} {r9 : (Int32 × zH)} (hf : FX7_load T a0 h = some r9) : ∃ fs, h a0 = some (.inr (7, fs)) := by
  obtain ⟨_, h1, _⟩ := zbind hf
  exact zo_obj h1
