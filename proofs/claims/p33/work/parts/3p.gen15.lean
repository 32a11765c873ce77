theorem mw_468 : (Jvm.Cond.methodLink "CrossedSheetLaw" (240 : Nat) ({ cls := "CrossedSheetLaw", name := "cell", desc := "([II)I" } : Jvm.MethodName)) ∈ TW := TWm 468 (by decide +kernel) (by decide +kernel)
theorem mw_469 : (Jvm.Cond.static ({ cls := "CrossedSheetLaw", name := "cell", desc := "([II)I" } : Jvm.MethodName)) ∈ TW := TWm 469 (by decide +kernel) (by decide +kernel)
theorem mw_470 : (Jvm.Cond.code ({ cls := "CrossedSheetLaw", name := "cell", desc := "([II)I" } : Jvm.MethodName) method_28_code (2 : Nat) (Option.some Jvm.ClassFile.FieldType.int)) ∈ TW := TWm 470 (by decide +kernel) (by decide +kernel)
theorem mw_866 : (Jvm.Cond.methodLink "CrossedSheetLaw" (254 : Nat) ({ cls := "CrossedSheetLaw", name := "marks", desc := "(LCrossedSheet;)Z" } : Jvm.MethodName)) ∈ TW := TWm 866 (by decide +kernel) (by decide +kernel)
theorem mw_867 : (Jvm.Cond.static ({ cls := "CrossedSheetLaw", name := "marks", desc := "(LCrossedSheet;)Z" } : Jvm.MethodName)) ∈ TW := TWm 867 (by decide +kernel) (by decide +kernel)
theorem mw_868 : (Jvm.Cond.code ({ cls := "CrossedSheetLaw", name := "marks", desc := "(LCrossedSheet;)Z" } : Jvm.MethodName) method_31_code (13 : Nat) (Option.some Jvm.ClassFile.FieldType.boolean)) ∈ TW := TWm 868 (by decide +kernel) (by decide +kernel)
theorem mw_869 : (Jvm.Cond.methodLink "CrossedSheetLaw" (257 : Nat) ({ cls := "CrossedSheetLaw", name := "words", desc := "(LCrossedSheet;I)Z" } : Jvm.MethodName)) ∈ TW := TWm 869 (by decide +kernel) (by decide +kernel)
theorem mw_870 : (Jvm.Cond.static ({ cls := "CrossedSheetLaw", name := "words", desc := "(LCrossedSheet;I)Z" } : Jvm.MethodName)) ∈ TW := TWm 870 (by decide +kernel) (by decide +kernel)
theorem mw_871 : (Jvm.Cond.code ({ cls := "CrossedSheetLaw", name := "words", desc := "(LCrossedSheet;I)Z" } : Jvm.MethodName) method_32_code (11 : Nat) (Option.some Jvm.ClassFile.FieldType.boolean)) ∈ TW := TWm 871 (by decide +kernel) (by decide +kernel)
theorem mw_890 : (Jvm.Cond.methodLink "CrossedSheetLaw" (260 : Nat) ({ cls := "CrossedSheetLaw", name := "reading", desc := "(LCrossedSheet;I)Z" } : Jvm.MethodName)) ∈ TW := TWm 890 (by decide +kernel) (by decide +kernel)
theorem mw_891 : (Jvm.Cond.static ({ cls := "CrossedSheetLaw", name := "reading", desc := "(LCrossedSheet;I)Z" } : Jvm.MethodName)) ∈ TW := TWm 891 (by decide +kernel) (by decide +kernel)
theorem mw_892 : (Jvm.Cond.code ({ cls := "CrossedSheetLaw", name := "reading", desc := "(LCrossedSheet;I)Z" } : Jvm.MethodName) method_33_code (11 : Nat) (Option.some Jvm.ClassFile.FieldType.boolean)) ∈ TW := TWm 892 (by decide +kernel) (by decide +kernel)
theorem mw_893 : (Jvm.Cond.methodLink "CrossedSheetLaw" (266 : Nat) ({ cls := "CrossedSheetLaw", name := "best", desc := "(LCrossedSheet;II)Z" } : Jvm.MethodName)) ∈ TW := TWm 893 (by decide +kernel) (by decide +kernel)
theorem mw_894 : (Jvm.Cond.static ({ cls := "CrossedSheetLaw", name := "best", desc := "(LCrossedSheet;II)Z" } : Jvm.MethodName)) ∈ TW := TWm 894 (by decide +kernel) (by decide +kernel)
theorem mw_895 : (Jvm.Cond.code ({ cls := "CrossedSheetLaw", name := "best", desc := "(LCrossedSheet;II)Z" } : Jvm.MethodName) method_34_code (16 : Nat) (Option.some Jvm.ClassFile.FieldType.boolean)) ∈ TW := TWm 895 (by decide +kernel) (by decide +kernel)
theorem mw_900 : (Jvm.Cond.methodLink "CrossedSheetLaw" (270 : Nat) ({ cls := "CrossedSheetLaw", name := "turns", desc := "(LCrossedSheet;)Z" } : Jvm.MethodName)) ∈ TW := TWm 900 (by decide +kernel) (by decide +kernel)
theorem mw_901 : (Jvm.Cond.static ({ cls := "CrossedSheetLaw", name := "turns", desc := "(LCrossedSheet;)Z" } : Jvm.MethodName)) ∈ TW := TWm 901 (by decide +kernel) (by decide +kernel)
theorem mw_902 : (Jvm.Cond.code ({ cls := "CrossedSheetLaw", name := "turns", desc := "(LCrossedSheet;)Z" } : Jvm.MethodName) method_35_code (9 : Nat) (Option.some Jvm.ClassFile.FieldType.boolean)) ∈ TW := TWm 902 (by decide +kernel) (by decide +kernel)
theorem mw_916 : (Jvm.Cond.methodLink "CrossedSheetLaw" (263 : Nat) ({ cls := "CrossedSheetLaw", name := "scripts", desc := "(LCrossedSheet;)Z" } : Jvm.MethodName)) ∈ TW := TWm 916 (by decide +kernel) (by decide +kernel)
theorem mw_917 : (Jvm.Cond.static ({ cls := "CrossedSheetLaw", name := "scripts", desc := "(LCrossedSheet;)Z" } : Jvm.MethodName)) ∈ TW := TWm 917 (by decide +kernel) (by decide +kernel)
theorem mw_918 : (Jvm.Cond.code ({ cls := "CrossedSheetLaw", name := "scripts", desc := "(LCrossedSheet;)Z" } : Jvm.MethodName) method_36_code (6 : Nat) (Option.some Jvm.ClassFile.FieldType.boolean)) ∈ TW := TWm 918 (by decide +kernel) (by decide +kernel)
theorem mw_969 : (Jvm.Cond.methodLink "CrossedSheetLaw" (248 : Nat) ({ cls := "CrossedSheetLaw", name := "fails", desc := "(LCrossedSheet;I)Z" } : Jvm.MethodName)) ∈ TW := TWm 969 (by decide +kernel) (by decide +kernel)
theorem mw_970 : (Jvm.Cond.static ({ cls := "CrossedSheetLaw", name := "fails", desc := "(LCrossedSheet;I)Z" } : Jvm.MethodName)) ∈ TW := TWm 970 (by decide +kernel) (by decide +kernel)
theorem mw_971 : (Jvm.Cond.code ({ cls := "CrossedSheetLaw", name := "fails", desc := "(LCrossedSheet;I)Z" } : Jvm.MethodName) method_37_code (5 : Nat) (Option.some Jvm.ClassFile.FieldType.boolean)) ∈ TW := TWm 971 (by decide +kernel) (by decide +kernel)
theorem mw_982 : (Jvm.Cond.methodLink "CrossedSheetLaw" (251 : Nat) ({ cls := "CrossedSheetLaw", name := "act", desc := "(LCrossedSheet;II)I" } : Jvm.MethodName)) ∈ TW := TWm 982 (by decide +kernel) (by decide +kernel)
theorem mw_983 : (Jvm.Cond.static ({ cls := "CrossedSheetLaw", name := "act", desc := "(LCrossedSheet;II)I" } : Jvm.MethodName)) ∈ TW := TWm 983 (by decide +kernel) (by decide +kernel)
theorem mw_984 : (Jvm.Cond.code ({ cls := "CrossedSheetLaw", name := "act", desc := "(LCrossedSheet;II)I" } : Jvm.MethodName) method_38_code (5 : Nat) (Option.some Jvm.ClassFile.FieldType.int)) ∈ TW := TWm 984 (by decide +kernel) (by decide +kernel)
theorem mw_986 : (Jvm.Cond.methodLink "CrossedSheetLaw" (244 : Nat) ({ cls := "CrossedSheetLaw", name := "begin", desc := "(LCrossedSheet;I)Z" } : Jvm.MethodName)) ∈ TW := TWm 986 (by decide +kernel) (by decide +kernel)
theorem mw_987 : (Jvm.Cond.static ({ cls := "CrossedSheetLaw", name := "begin", desc := "(LCrossedSheet;I)Z" } : Jvm.MethodName)) ∈ TW := TWm 987 (by decide +kernel) (by decide +kernel)
theorem mw_988 : (Jvm.Cond.code ({ cls := "CrossedSheetLaw", name := "begin", desc := "(LCrossedSheet;I)Z" } : Jvm.MethodName) method_39_code (3 : Nat) (Option.some Jvm.ClassFile.FieldType.boolean)) ∈ TW := TWm 988 (by decide +kernel) (by decide +kernel)
theorem mw_993 : (Jvm.Cond.constantLong "CrossedSheetLaw" (273 : Nat) (3434269619 : Int64)) ∈ TW := TWm 993 (by decide +kernel) (by decide +kernel)
theorem mw_994 : (Jvm.Cond.constantLong "CrossedSheetLaw" (275 : Nat) (809 : Int64)) ∈ TW := TWm 994 (by decide +kernel) (by decide +kernel)
theorem ys_L_act : yL_act.cls ≠ "java/lang/invoke/MethodHandle" ∧ yL_act.cls ≠ "java/lang/invoke/VarHandle" ∧ (parseMethodDescriptor yL_act.desc).map (fun d => d.parameters.length) = some 3 := by decide +kernel
theorem ys_L_begin : yL_begin.cls ≠ "java/lang/invoke/MethodHandle" ∧ yL_begin.cls ≠ "java/lang/invoke/VarHandle" ∧ (parseMethodDescriptor yL_begin.desc).map (fun d => d.parameters.length) = some 2 := by decide +kernel
theorem ys_L_best : yL_best.cls ≠ "java/lang/invoke/MethodHandle" ∧ yL_best.cls ≠ "java/lang/invoke/VarHandle" ∧ (parseMethodDescriptor yL_best.desc).map (fun d => d.parameters.length) = some 3 := by decide +kernel
theorem ys_L_cell : yL_cell.cls ≠ "java/lang/invoke/MethodHandle" ∧ yL_cell.cls ≠ "java/lang/invoke/VarHandle" ∧ (parseMethodDescriptor yL_cell.desc).map (fun d => d.parameters.length) = some 2 := by decide +kernel
theorem ys_L_fails : yL_fails.cls ≠ "java/lang/invoke/MethodHandle" ∧ yL_fails.cls ≠ "java/lang/invoke/VarHandle" ∧ (parseMethodDescriptor yL_fails.desc).map (fun d => d.parameters.length) = some 2 := by decide +kernel
theorem ys_L_marks : yL_marks.cls ≠ "java/lang/invoke/MethodHandle" ∧ yL_marks.cls ≠ "java/lang/invoke/VarHandle" ∧ (parseMethodDescriptor yL_marks.desc).map (fun d => d.parameters.length) = some 1 := by decide +kernel
theorem ys_L_reading : yL_reading.cls ≠ "java/lang/invoke/MethodHandle" ∧ yL_reading.cls ≠ "java/lang/invoke/VarHandle" ∧ (parseMethodDescriptor yL_reading.desc).map (fun d => d.parameters.length) = some 2 := by decide +kernel
theorem ys_L_scripts : yL_scripts.cls ≠ "java/lang/invoke/MethodHandle" ∧ yL_scripts.cls ≠ "java/lang/invoke/VarHandle" ∧ (parseMethodDescriptor yL_scripts.desc).map (fun d => d.parameters.length) = some 1 := by decide +kernel
theorem ys_L_turns : yL_turns.cls ≠ "java/lang/invoke/MethodHandle" ∧ yL_turns.cls ≠ "java/lang/invoke/VarHandle" ∧ (parseMethodDescriptor yL_turns.desc).map (fun d => d.parameters.length) = some 1 := by decide +kernel
theorem ys_L_words : yL_words.cls ≠ "java/lang/invoke/MethodHandle" ∧ yL_words.cls ≠ "java/lang/invoke/VarHandle" ∧ (parseMethodDescriptor yL_words.desc).map (fun d => d.parameters.length) = some 2 := by decide +kernel
theorem cw_L_240 : GoodIn TW (va_wsS RL 240 yL_cell (.code yL_cell cL_cell 2 (some .int) :: TW)) := zGS mw_468 mw_469 mw_25 mw_470
theorem cw_L_244 : GoodIn TW (va_wsS RL 244 yL_begin (.code yL_begin cL_begin 3 (some .boolean) :: TW)) := zGS mw_986 mw_987 mw_25 mw_988
theorem cw_L_248 : GoodIn TW (va_wsS RL 248 yL_fails (.code yL_fails cL_fails 5 (some .boolean) :: TW)) := zGS mw_969 mw_970 mw_25 mw_971
theorem cw_L_251 : GoodIn TW (va_wsS RL 251 yL_act (.code yL_act cL_act 5 (some .int) :: TW)) := zGS mw_982 mw_983 mw_25 mw_984
theorem cw_L_254 : GoodIn TW (va_wsS RL 254 yL_marks (.code yL_marks cL_marks 13 (some .boolean) :: TW)) := zGS mw_866 mw_867 mw_25 mw_868
theorem cw_L_257 : GoodIn TW (va_wsS RL 257 yL_words (.code yL_words cL_words 11 (some .boolean) :: TW)) := zGS mw_869 mw_870 mw_25 mw_871
theorem cw_L_260 : GoodIn TW (va_wsS RL 260 yL_reading (.code yL_reading cL_reading 11 (some .boolean) :: TW)) := zGS mw_890 mw_891 mw_25 mw_892
theorem cw_L_263 : GoodIn TW (va_wsS RL 263 yL_scripts (.code yL_scripts cL_scripts 6 (some .boolean) :: TW)) := zGS mw_916 mw_917 mw_25 mw_918
theorem cw_L_266 : GoodIn TW (va_wsS RL 266 yL_best (.code yL_best cL_best 16 (some .boolean) :: TW)) := zGS mw_893 mw_894 mw_25 mw_895
theorem cw_L_270 : GoodIn TW (va_wsS RL 270 yL_turns (.code yL_turns cL_turns 9 (some .boolean) :: TW)) := zGS mw_900 mw_901 mw_25 mw_902
theorem dL_law_0 : decode cL_law 0 = .ok (.new 8, 3) := by decide +kernel
theorem dL_law_3 : decode cL_law 3 = .ok (.dup, 1) := by decide +kernel
theorem dL_law_4 : decode cL_law 4 = .ok (.invokespecial 239, 3) := by decide +kernel
theorem dL_law_7 : decode cL_law 7 = .ok (.astore_n 1, 1) := by decide +kernel
theorem dL_law_8 : decode cL_law 8 = .ok (.new 8, 3) := by decide +kernel
theorem dL_law_11 : decode cL_law 11 = .ok (.dup, 1) := by decide +kernel
theorem dL_law_12 : decode cL_law 12 = .ok (.invokespecial 239, 3) := by decide +kernel
theorem dL_law_15 : decode cL_law 15 = .ok (.astore_n 2, 1) := by decide +kernel
theorem dL_law_16 : decode cL_law 16 = .ok (.aload_n 0, 1) := by decide +kernel
theorem dL_law_17 : decode cL_law 17 = .ok (.iconst 0, 1) := by decide +kernel
theorem dL_law_18 : decode cL_law 18 = .ok (.invokestatic 240, 3) := by decide +kernel
theorem dL_law_21 : decode cL_law 21 = .ok (.istore_n 3, 1) := by decide +kernel
theorem dL_law_22 : decode cL_law 22 = .ok (.aload_n 1, 1) := by decide +kernel
theorem dL_law_23 : decode cL_law 23 = .ok (.iload_n 3, 1) := by decide +kernel
theorem dL_law_24 : decode cL_law 24 = .ok (.invokestatic 244, 3) := by decide +kernel
theorem dL_law_27 : decode cL_law 27 = .ok (.ifCond .eq 15, 3) := by decide +kernel
theorem dL_law_30 : decode cL_law 30 = .ok (.aload_n 2, 1) := by decide +kernel
theorem dL_law_31 : decode cL_law 31 = .ok (.iload_n 3, 1) := by decide +kernel
theorem dL_law_32 : decode cL_law 32 = .ok (.invokestatic 244, 3) := by decide +kernel
theorem dL_law_35 : decode cL_law 35 = .ok (.ifCond .eq 7, 3) := by decide +kernel
theorem dL_law_38 : decode cL_law 38 = .ok (.iconst 1, 1) := by decide +kernel
theorem dL_law_39 : decode cL_law 39 = .ok (.goto 4, 3) := by decide +kernel
theorem dL_law_42 : decode cL_law 42 = .ok (.iconst 0, 1) := by decide +kernel
theorem dL_law_43 : decode cL_law 43 = .ok (.istore 4, 2) := by decide +kernel
theorem dL_law_45 : decode cL_law 45 = .ok (.iconst 0, 1) := by decide +kernel
theorem dL_law_46 : decode cL_law 46 = .ok (.istore 5, 2) := by decide +kernel
theorem dL_law_48 : decode cL_law 48 = .ok (.iload 5, 2) := by decide +kernel
theorem dL_law_50 : decode cL_law 50 = .ok (.bipush 26, 2) := by decide +kernel
theorem dL_law_52 : decode cL_law 52 = .ok (.if_icmp .ge 295, 3) := by decide +kernel
theorem dL_law_55 : decode cL_law 55 = .ok (.iload 4, 2) := by decide +kernel
theorem dL_law_57 : decode cL_law 57 = .ok (.ifCond .eq 290, 3) := by decide +kernel
theorem dL_law_60 : decode cL_law 60 = .ok (.aload_n 0, 1) := by decide +kernel
theorem dL_law_61 : decode cL_law 61 = .ok (.iconst 1, 1) := by decide +kernel
theorem dL_law_62 : decode cL_law 62 = .ok (.iconst 2, 1) := by decide +kernel
theorem dL_law_63 : decode cL_law 63 = .ok (.iload 5, 2) := by decide +kernel
theorem dL_law_65 : decode cL_law 65 = .ok (.imul, 1) := by decide +kernel
theorem dL_law_66 : decode cL_law 66 = .ok (.iadd, 1) := by decide +kernel
theorem dL_law_67 : decode cL_law 67 = .ok (.invokestatic 240, 3) := by decide +kernel
theorem dL_law_70 : decode cL_law 70 = .ok (.istore 6, 2) := by decide +kernel
theorem dL_law_72 : decode cL_law 72 = .ok (.aload_n 0, 1) := by decide +kernel
theorem dL_law_73 : decode cL_law 73 = .ok (.iconst 2, 1) := by decide +kernel
theorem dL_law_74 : decode cL_law 74 = .ok (.iconst 2, 1) := by decide +kernel
theorem dL_law_75 : decode cL_law 75 = .ok (.iload 5, 2) := by decide +kernel
theorem dL_law_77 : decode cL_law 77 = .ok (.imul, 1) := by decide +kernel
theorem dL_law_78 : decode cL_law 78 = .ok (.iadd, 1) := by decide +kernel
theorem dL_law_79 : decode cL_law 79 = .ok (.invokestatic 240, 3) := by decide +kernel
theorem dL_law_82 : decode cL_law 82 = .ok (.istore 7, 2) := by decide +kernel
theorem dL_law_84 : decode cL_law 84 = .ok (.aload_n 2, 1) := by decide +kernel
theorem dL_law_85 : decode cL_law 85 = .ok (.iload 6, 2) := by decide +kernel
theorem dL_law_87 : decode cL_law 87 = .ok (.invokestatic 248, 3) := by decide +kernel
theorem dL_law_90 : decode cL_law 90 = .ok (.ifCond .eq 38, 3) := by decide +kernel
theorem dL_law_93 : decode cL_law 93 = .ok (.aload_n 1, 1) := by decide +kernel
theorem dL_law_94 : decode cL_law 94 = .ok (.iload 6, 2) := by decide +kernel
theorem dL_law_96 : decode cL_law 96 = .ok (.iload 7, 2) := by decide +kernel
theorem dL_law_98 : decode cL_law 98 = .ok (.invokestatic 251, 3) := by decide +kernel
theorem dL_law_101 : decode cL_law 101 = .ok (.aload_n 2, 1) := by decide +kernel
theorem dL_law_102 : decode cL_law 102 = .ok (.iload 6, 2) := by decide +kernel
theorem dL_law_104 : decode cL_law 104 = .ok (.iload 7, 2) := by decide +kernel
theorem dL_law_106 : decode cL_law 106 = .ok (.invokestatic 251, 3) := by decide +kernel
theorem dL_law_109 : decode cL_law 109 = .ok (.if_icmp .ne 19, 3) := by decide +kernel
theorem dL_law_112 : decode cL_law 112 = .ok (.aload_n 1, 1) := by decide +kernel
theorem dL_law_113 : decode cL_law 113 = .ok (.invokestatic 186, 3) := by decide +kernel
theorem dL_law_116 : decode cL_law 116 = .ok (.aload_n 2, 1) := by decide +kernel
theorem dL_law_117 : decode cL_law 117 = .ok (.invokestatic 186, 3) := by decide +kernel
theorem dL_law_120 : decode cL_law 120 = .ok (.lcmp, 1) := by decide +kernel
theorem dL_law_121 : decode cL_law 121 = .ok (.ifCond .ne 7, 3) := by decide +kernel
theorem dL_law_124 : decode cL_law 124 = .ok (.iconst 1, 1) := by decide +kernel
theorem dL_law_125 : decode cL_law 125 = .ok (.goto 4, 3) := by decide +kernel
theorem dL_law_128 : decode cL_law 128 = .ok (.iconst 0, 1) := by decide +kernel
theorem dL_law_129 : decode cL_law 129 = .ok (.istore 4, 2) := by decide +kernel
theorem dL_law_131 : decode cL_law 131 = .ok (.iload 5, 2) := by decide +kernel
theorem dL_law_133 : decode cL_law 133 = .ok (.iconst 3, 1) := by decide +kernel
theorem dL_law_134 : decode cL_law 134 = .ok (.irem, 1) := by decide +kernel
theorem dL_law_135 : decode cL_law 135 = .ok (.iconst 2, 1) := by decide +kernel
theorem dL_law_136 : decode cL_law 136 = .ok (.if_icmp .ne 63, 3) := by decide +kernel
theorem dL_law_139 : decode cL_law 139 = .ok (.iload 4, 2) := by decide +kernel
theorem dL_law_141 : decode cL_law 141 = .ok (.ifCond .eq 58, 3) := by decide +kernel
theorem dL_law_144 : decode cL_law 144 = .ok (.aload_n 1, 1) := by decide +kernel
theorem dL_law_145 : decode cL_law 145 = .ok (.invokestatic 254, 3) := by decide +kernel
theorem dL_law_148 : decode cL_law 148 = .ok (.ifCond .eq 48, 3) := by decide +kernel
theorem dL_law_151 : decode cL_law 151 = .ok (.aload_n 1, 1) := by decide +kernel
theorem dL_law_152 : decode cL_law 152 = .ok (.iload 5, 2) := by decide +kernel
theorem dL_law_154 : decode cL_law 154 = .ok (.iconst 2, 1) := by decide +kernel
theorem dL_law_155 : decode cL_law 155 = .ok (.irem, 1) := by decide +kernel
theorem dL_law_156 : decode cL_law 156 = .ok (.invokestatic 257, 3) := by decide +kernel
theorem dL_law_159 : decode cL_law 159 = .ok (.ifCond .eq 37, 3) := by decide +kernel
theorem dL_law_162 : decode cL_law 162 = .ok (.aload_n 2, 1) := by decide +kernel
theorem dL_law_163 : decode cL_law 163 = .ok (.iload 5, 2) := by decide +kernel
theorem dL_law_165 : decode cL_law 165 = .ok (.iconst 2, 1) := by decide +kernel
theorem dL_law_166 : decode cL_law 166 = .ok (.irem, 1) := by decide +kernel
theorem dL_law_167 : decode cL_law 167 = .ok (.invokestatic 260, 3) := by decide +kernel
theorem dL_law_170 : decode cL_law 170 = .ok (.ifCond .eq 26, 3) := by decide +kernel
theorem dL_law_173 : decode cL_law 173 = .ok (.aload_n 2, 1) := by decide +kernel
theorem dL_law_174 : decode cL_law 174 = .ok (.invokestatic 263, 3) := by decide +kernel
theorem dL_law_177 : decode cL_law 177 = .ok (.ifCond .eq 19, 3) := by decide +kernel
theorem dL_law_180 : decode cL_law 180 = .ok (.aload_n 1, 1) := by decide +kernel
theorem dL_law_181 : decode cL_law 181 = .ok (.invokestatic 186, 3) := by decide +kernel
theorem dL_law_184 : decode cL_law 184 = .ok (.aload_n 2, 1) := by decide +kernel
theorem dL_law_185 : decode cL_law 185 = .ok (.invokestatic 186, 3) := by decide +kernel
theorem dL_law_188 : decode cL_law 188 = .ok (.lcmp, 1) := by decide +kernel
theorem dL_law_189 : decode cL_law 189 = .ok (.ifCond .ne 7, 3) := by decide +kernel
theorem dL_law_192 : decode cL_law 192 = .ok (.iconst 1, 1) := by decide +kernel
theorem dL_law_193 : decode cL_law 193 = .ok (.goto 4, 3) := by decide +kernel
theorem dL_law_196 : decode cL_law 196 = .ok (.iconst 0, 1) := by decide +kernel
theorem dL_law_197 : decode cL_law 197 = .ok (.istore 4, 2) := by decide +kernel
theorem dL_law_199 : decode cL_law 199 = .ok (.iload 5, 2) := by decide +kernel
theorem dL_law_201 : decode cL_law 201 = .ok (.iconst 5, 1) := by decide +kernel
theorem dL_law_202 : decode cL_law 202 = .ok (.irem, 1) := by decide +kernel
theorem dL_law_203 : decode cL_law 203 = .ok (.iconst 4, 1) := by decide +kernel
theorem dL_law_204 : decode cL_law 204 = .ok (.if_icmp .ne 61, 3) := by decide +kernel
theorem dL_law_207 : decode cL_law 207 = .ok (.iload 4, 2) := by decide +kernel
theorem dL_law_209 : decode cL_law 209 = .ok (.ifCond .eq 56, 3) := by decide +kernel
theorem dL_law_212 : decode cL_law 212 = .ok (.aload_n 1, 1) := by decide +kernel
theorem dL_law_213 : decode cL_law 213 = .ok (.iload 7, 2) := by decide +kernel
theorem dL_law_215 : decode cL_law 215 = .ok (.iconst 2, 1) := by decide +kernel
theorem dL_law_216 : decode cL_law 216 = .ok (.irem, 1) := by decide +kernel
theorem dL_law_217 : decode cL_law 217 = .ok (.iload 6, 2) := by decide +kernel
theorem dL_law_219 : decode cL_law 219 = .ok (.bipush 16, 2) := by decide +kernel
theorem dL_law_221 : decode cL_law 221 = .ok (.idiv, 1) := by decide +kernel
theorem dL_law_222 : decode cL_law 222 = .ok (.invokestatic 266, 3) := by decide +kernel
theorem dL_law_225 : decode cL_law 225 = .ok (.ifCond .eq 37, 3) := by decide +kernel
theorem dL_law_228 : decode cL_law 228 = .ok (.aload_n 2, 1) := by decide +kernel
theorem dL_law_229 : decode cL_law 229 = .ok (.iload 7, 2) := by decide +kernel
theorem dL_law_231 : decode cL_law 231 = .ok (.iconst 2, 1) := by decide +kernel
theorem dL_law_232 : decode cL_law 232 = .ok (.irem, 1) := by decide +kernel
theorem dL_law_233 : decode cL_law 233 = .ok (.iload 6, 2) := by decide +kernel
theorem dL_law_235 : decode cL_law 235 = .ok (.bipush 16, 2) := by decide +kernel
theorem dL_law_237 : decode cL_law 237 = .ok (.idiv, 1) := by decide +kernel
theorem dL_law_238 : decode cL_law 238 = .ok (.invokestatic 266, 3) := by decide +kernel
theorem dL_law_241 : decode cL_law 241 = .ok (.ifCond .eq 21, 3) := by decide +kernel
theorem dL_law_244 : decode cL_law 244 = .ok (.aload_n 1, 1) := by decide +kernel
theorem dL_law_245 : decode cL_law 245 = .ok (.invokestatic 270, 3) := by decide +kernel
theorem dL_law_248 : decode cL_law 248 = .ok (.ifCond .eq 14, 3) := by decide +kernel
theorem dL_law_251 : decode cL_law 251 = .ok (.aload_n 2, 1) := by decide +kernel
theorem dL_law_252 : decode cL_law 252 = .ok (.invokestatic 270, 3) := by decide +kernel
theorem dL_law_255 : decode cL_law 255 = .ok (.ifCond .eq 7, 3) := by decide +kernel
theorem dL_law_258 : decode cL_law 258 = .ok (.iconst 1, 1) := by decide +kernel
theorem dL_law_259 : decode cL_law 259 = .ok (.goto 4, 3) := by decide +kernel
theorem dL_law_262 : decode cL_law 262 = .ok (.iconst 0, 1) := by decide +kernel
theorem dL_law_263 : decode cL_law 263 = .ok (.istore 4, 2) := by decide +kernel
theorem dL_law_265 : decode cL_law 265 = .ok (.iload 5, 2) := by decide +kernel
theorem dL_law_267 : decode cL_law 267 = .ok (.bipush 9, 2) := by decide +kernel
theorem dL_law_269 : decode cL_law 269 = .ok (.irem, 1) := by decide +kernel
theorem dL_law_270 : decode cL_law 270 = .ok (.bipush 8, 2) := by decide +kernel
theorem dL_law_272 : decode cL_law 272 = .ok (.if_icmp .ne 69, 3) := by decide +kernel
theorem dL_law_275 : decode cL_law 275 = .ok (.iload 4, 2) := by decide +kernel
theorem dL_law_277 : decode cL_law 277 = .ok (.ifCond .eq 64, 3) := by decide +kernel
theorem dL_law_280 : decode cL_law 280 = .ok (.iload 7, 2) := by decide +kernel
theorem dL_law_282 : decode cL_law 282 = .ok (.i2l, 1) := by decide +kernel
theorem dL_law_283 : decode cL_law 283 = .ok (.ldc2_w 273, 3) := by decide +kernel
theorem dL_law_286 : decode cL_law 286 = .ok (.lmul, 1) := by decide +kernel
theorem dL_law_287 : decode cL_law 287 = .ok (.ldc2_w 275, 3) := by decide +kernel
theorem dL_law_290 : decode cL_law 290 = .ok (.lsub, 1) := by decide +kernel
theorem dL_law_291 : decode cL_law 291 = .ok (.lstore 8, 2) := by decide +kernel
theorem dL_law_293 : decode cL_law 293 = .ok (.aload_n 1, 1) := by decide +kernel
theorem dL_law_294 : decode cL_law 294 = .ok (.lload 8, 2) := by decide +kernel
theorem dL_law_296 : decode cL_law 296 = .ok (.iconst 1, 1) := by decide +kernel
theorem dL_law_297 : decode cL_law 297 = .ok (.iload 6, 2) := by decide +kernel
theorem dL_law_299 : decode cL_law 299 = .ok (.bipush 60, 2) := by decide +kernel
theorem dL_law_301 : decode cL_law 301 = .ok (.irem, 1) := by decide +kernel
theorem dL_law_302 : decode cL_law 302 = .ok (.iadd, 1) := by decide +kernel
theorem dL_law_303 : decode cL_law 303 = .ok (.invokestatic 231, 3) := by decide +kernel
theorem dL_law_306 : decode cL_law 306 = .ok (.aload_n 2, 1) := by decide +kernel
theorem dL_law_307 : decode cL_law 307 = .ok (.lload 8, 2) := by decide +kernel
theorem dL_law_309 : decode cL_law 309 = .ok (.iconst 1, 1) := by decide +kernel
theorem dL_law_310 : decode cL_law 310 = .ok (.iload 6, 2) := by decide +kernel
theorem dL_law_312 : decode cL_law 312 = .ok (.bipush 60, 2) := by decide +kernel
theorem dL_law_314 : decode cL_law 314 = .ok (.irem, 1) := by decide +kernel
theorem dL_law_315 : decode cL_law 315 = .ok (.iadd, 1) := by decide +kernel
theorem dL_law_316 : decode cL_law 316 = .ok (.invokestatic 231, 3) := by decide +kernel
theorem dL_law_319 : decode cL_law 319 = .ok (.if_icmp .ne 19, 3) := by decide +kernel
theorem dL_law_322 : decode cL_law 322 = .ok (.aload_n 1, 1) := by decide +kernel
theorem dL_law_323 : decode cL_law 323 = .ok (.invokestatic 186, 3) := by decide +kernel
theorem dL_law_326 : decode cL_law 326 = .ok (.aload_n 2, 1) := by decide +kernel
theorem dL_law_327 : decode cL_law 327 = .ok (.invokestatic 186, 3) := by decide +kernel
theorem dL_law_330 : decode cL_law 330 = .ok (.lcmp, 1) := by decide +kernel
theorem dL_law_331 : decode cL_law 331 = .ok (.ifCond .ne 7, 3) := by decide +kernel
theorem dL_law_334 : decode cL_law 334 = .ok (.iconst 1, 1) := by decide +kernel
theorem dL_law_335 : decode cL_law 335 = .ok (.goto 4, 3) := by decide +kernel
theorem dL_law_338 : decode cL_law 338 = .ok (.iconst 0, 1) := by decide +kernel
theorem dL_law_339 : decode cL_law 339 = .ok (.istore 4, 2) := by decide +kernel
theorem dL_law_341 : decode cL_law 341 = .ok (.iinc 5 1, 3) := by decide +kernel
theorem dL_law_344 : decode cL_law 344 = .ok (.goto (-296), 3) := by decide +kernel
theorem dL_law_347 : decode cL_law 347 = .ok (.iload 4, 2) := by decide +kernel
theorem dL_law_349 : decode cL_law 349 = .ok (.ireturn, 1) := by decide +kernel
def LL_law_48 {ρ : Type} (T : zT) (xv : Nat → Int32) (L : Nat) (x4 : Nat) (x5 : Nat) (K0 : Int32 → zH → Option (ρ × zH × Nat)) : Nat → Int32 → Int32 → zH → Option (ρ × zH × Nat)
  | 0, _, _, _ => none
  | k + 1, x6, x7, h8 => if 26 ≤ x7 then (K0 x6 h8) else (if x6 = 0 then (K0 x6 h8) else (zJ (fun (x9 : Int32) (x10 : Int32) (x11 : Int32) (h12 : zH) => zJ (fun (x14 : Int32) (h15 : zH) => zJ (fun (x17 : Int32) (h18 : zH) => zJ (fun (x20 : Int32) (h21 : zH) => LL_law_48 T xv L x4 x5 K0 k x20 (x7 + 1) h21) (fun J22 => (zremI x7 9).bind fun x23 => if x23 = 8 then (if x17 = 0 then (J22 x17 h18) else (zJ (fun (x24 : Int32) (h25 : zH) => J22 x24 h25) (fun J26 => zJ (fun (h27 : zH) => J26 0 h27) (fun J28 => (zremI x9 60).bind fun x29 => zcn 1 (FL_trySimulate T x4 ((x10.toInt64 * (3434269619 : Int64)) - (809 : Int64)) (1 + x29) h18) fun x31 h32 => (zremI x9 60).bind fun x33 => zcn 1 (FL_trySimulate T x5 ((x10.toInt64 * (3434269619 : Int64)) - (809 : Int64)) (1 + x33) h32) fun x35 h36 => if x31 = x35 then (zcl (FL_sum T x4 h36) fun x38 h39 => zcl (FL_sum T x5 h39) fun x42 h43 => if (lg_cmp x38 x42) = 0 then (J26 1 h43) else (J28 h43)) else (J28 h36))))) else (J22 x17 h18))) (fun J19 => (zremI x7 5).bind fun x45 => if x45 = 4 then (if x14 = 0 then (J19 x14 h15) else (zJ (fun (x46 : Int32) (h47 : zH) => J19 x46 h47) (fun J48 => zJ (fun (h49 : zH) => J48 0 h49) (fun J50 => (zremI x10 2).bind fun x51 => (zdivI x9 16).bind fun x52 => zcl (FL_best T x4 x51 x52 h15) fun x54 h55 => if x54 = 0 then (J50 h55) else ((zremI x10 2).bind fun x57 => (zdivI x9 16).bind fun x58 => zcl (FL_best T x5 x57 x58 h55) fun x60 h61 => if x60 = 0 then (J50 h61) else (zcl (FL_turns T x4 h61) fun x64 h65 => if x64 = 0 then (J50 h65) else (zcl (FL_turns T x5 h65) fun x68 h69 => if x68 = 0 then (J50 h69) else (J48 1 h69)))))))) else (J19 x14 h15))) (fun J16 => (zremI x7 3).bind fun x71 => if x71 = 2 then (if x11 = 0 then (J16 x11 h12) else (zJ (fun (x72 : Int32) (h73 : zH) => J16 x72 h73) (fun J74 => zJ (fun (h75 : zH) => J74 0 h75) (fun J76 => zcl (FL_marks T x4 h12) fun x78 h79 => if x78 = 0 then (J76 h79) else ((zremI x7 2).bind fun x81 => zcl (FL_words T x4 x81 h79) fun x83 h84 => if x83 = 0 then (J76 h84) else ((zremI x7 2).bind fun x86 => zcl (FL_reading T x5 x86 h84) fun x88 h89 => if x88 = 0 then (J76 h89) else (zcl (FL_scripts T x5 h89) fun x92 h93 => if x92 = 0 then (J76 h93) else (zcl (FL_sum T x4 h93) fun x96 h97 => zcl (FL_sum T x5 h97) fun x100 h101 => if (lg_cmp x96 x100) = 0 then (J74 1 h101) else (J76 h101))))))))) else (J16 x11 h12))) (fun J13 => zJ (fun (x103 : Int32) (x104 : Int32) (h105 : zH) => J13 x103 x104 0 h105) (fun J106 => (FL_cell xv L (1 + (2 * x7))).bind fun x108 => (FL_cell xv L (2 + (2 * x7))).bind fun x110 => zcl (FL_fails T x5 x108 h8) fun x112 h113 => if x112 = 0 then (J106 x108 x110 h113) else (zcl (FL_act T x4 x108 x110 h113) fun x116 h117 => zcl (FL_act T x5 x108 x110 h117) fun x120 h121 => if x116 = x120 then (zcl (FL_sum T x4 h121) fun x124 h125 => zcl (FL_sum T x5 h125) fun x128 h129 => if (lg_cmp x124 x128) = 0 then (J13 x108 x110 1 h129) else (J106 x108 x110 h129)) else (J106 x108 x110 h121))))))
set_option maxHeartbeats 4000000 in
set_option maxRecDepth 100000 in
theorem LL_law_48_ok {X : zX} (CL : zCL X cL_law 10 RL (xM X).name (some .boolean) 13 302) {Z : State → Prop} {hi : Nat} {ρ : Type} {rv : ρ} {rh : zH} {xv : Nat → Int32} {L bs : Nat} (hX : va_X bs L xv (xs X) (xs X).heap) (hbl : bs < xlo X) {x4 : Nat} {x5 : Nat} {K0 : Int32 → zH → Option (ρ × zH × Nat)} (hK0 : ∀ (y4 : Int32) (g9 : zH) (n9 : Nat), K0 y4 g9 = some (rv, rh, n9) → zW X 10 Z n9 (6 * n9) false hi g9 347 [(4, .int y4)] []) : ∀ (k : Nat) (x6 : Int32) (x7 : Int32) (h8 : zH) (n9 : Nat), LL_law_48 (xT X) xv L x4 x5 K0 k x6 x7 h8 = some (rv, rh, n9) → zW X 10 Z n9 (6 * n9) false hi h8 48 [(0, .ref bs), (1, .ref x4), (2, .ref x5), (4, .int x6), (5, .int x7)] [] := by
  have C := CL.1
  intro k
  induction k with
  | zero =>
    intro x6 x7 h8 n9 hf
    have hf : none = some (rv, rh, n9) := hf
    cases hf
  | succ k ih =>
    intro x6 x7 h8 n9 hf
    rw [LL_law_48.eq_2] at hf
    refine z_iload C dL_law_48 4 rfl ?_
    refine z_bipush C (v := 26) dL_law_50 (by decide) ?_
    refine z_icmp_ge (tgt := 347) C dL_law_52 (by decide) hf (fun hf => ?_) (fun hf => ?_)
    · refine z_sub [3] rfl ?_
      exact hK0 _ _ _ hf
    · refine z_iload C dL_law_55 3 rfl ?_
      refine z_if_eq (tgt := 347) C dL_law_57 (by decide) hf (fun hf => ?_) (fun hf => ?_)
      · refine z_sub [3] rfl ?_
        exact hK0 _ _ _ hf
      · refine z_join (P := fun J => ∀ (x9 : Int32) (x10 : Int32) (x11 : Int32) (h12 : zH) (n9 : Nat), J x9 x10 x11 h12 = some (rv, rh, n9) → zW X 10 Z n9 (6 * n9) false hi h12 129 [(0, .ref bs), (1, .ref x4), (2, .ref x5), (5, .int x7), (6, .int x9), (7, .int x10)] [.int x11]) hf ?_ ?_
        · intro x9 x10 x11 h12 n9 hf
          refine z_join (P := fun J => ∀ (x14 : Int32) (h15 : zH) (n9 : Nat), J x14 h15 = some (rv, rh, n9) → zW X 10 Z n9 (6 * n9) false hi h15 199 [(0, .ref bs), (1, .ref x4), (2, .ref x5), (4, .int x14), (5, .int x7), (6, .int x9), (7, .int x10)] []) hf ?_ ?_
          · intro x14 h15 n9 hf
            refine z_join (P := fun J => ∀ (x17 : Int32) (h18 : zH) (n9 : Nat), J x17 h18 = some (rv, rh, n9) → zW X 10 Z n9 (6 * n9) false hi h18 265 [(0, .ref bs), (1, .ref x4), (2, .ref x5), (4, .int x17), (5, .int x7), (6, .int x9), (7, .int x10)] []) hf ?_ ?_
            · intro x17 h18 n9 hf
              refine z_join (P := fun J => ∀ (x20 : Int32) (h21 : zH) (n9 : Nat), J x20 h21 = some (rv, rh, n9) → zW X 10 Z n9 (6 * n9) false hi h21 341 [(0, .ref bs), (1, .ref x4), (2, .ref x5), (4, .int x20), (5, .int x7)] []) hf ?_ ?_
              · intro x20 h21 n9 hf
                refine z_iinc C dL_law_341 (k := 4) (d := 1) rfl (by decide) (by decide) (lv' := [(5, .int (x7 + 1)), (0, .ref bs), (1, .ref x4), (2, .ref x5), (4, .int x20)]) rfl ?_
                refine z_goto (tgt := 48) C dL_law_344 (by decide) ?_
                refine z_sub [1, 2, 3, 4, 0] rfl ?_
                exact ih _ _ _ _ hf
              · intro J22 kJ22 hf
                refine z_iload C dL_law_265 4 rfl ?_
                refine z_bipush C (v := 9) dL_law_267 (by decide) ?_
                refine z_irem C dL_law_269 hf (fun x23 _ hf => ?_)
                refine z_bipush C (v := 8) dL_law_270 (by decide) ?_
                refine z_icmp_ne (tgt := 341) C dL_law_272 (by decide) hf (fun hf => ?_) (fun hf => ?_)
                · refine z_sub [0, 1, 2, 3, 4] rfl ?_
                  exact kJ22 _ _ _ hf
                · refine z_iload C dL_law_275 3 rfl ?_
                  refine z_if_eq (tgt := 341) C dL_law_277 (by decide) hf (fun hf => ?_) (fun hf => ?_)
                  · refine z_sub [0, 1, 2, 3, 4] rfl ?_
                    exact kJ22 _ _ _ hf
                  · refine z_join (P := fun J => ∀ (x24 : Int32) (h25 : zH) (n9 : Nat), J x24 h25 = some (rv, rh, n9) → zW X 10 Z n9 (6 * n9) false hi h25 339 [(0, .ref bs), (1, .ref x4), (2, .ref x5), (5, .int x7)] [.int x24]) hf ?_ ?_
                    · intro x24 h25 n9 hf
                      refine z_istore C dL_law_339 (by decide) (lv' := [(4, .int x24), (0, .ref bs), (1, .ref x4), (2, .ref x5), (5, .int x7)]) rfl ?_
                      refine z_sub [1, 2, 3, 0, 4] rfl ?_
                      exact kJ22 _ _ _ hf
                    · intro J26 kJ26 hf
                      refine z_join (P := fun J => ∀ (h27 : zH) (n9 : Nat), J h27 = some (rv, rh, n9) → zW X 10 Z n9 (6 * n9) false hi h27 338 [(0, .ref bs), (1, .ref x4), (2, .ref x5), (5, .int x7)] []) hf ?_ ?_
                      · intro h27 n9 hf
                        refine z_iconst C (v := 0) dL_law_338 (by decide) ?_
                        exact kJ26 _ _ _ hf
                      · intro J28 kJ28 hf
                        refine z_iload C dL_law_280 6 rfl ?_
                        refine z_i2l C dL_law_282 ?_
                        refine z_ldc2 C (v := 3434269619) mw_993 dL_law_283 ?_
                        refine z_lmul C dL_law_286 ?_
                        refine z_ldc2 C (v := 809) mw_994 dL_law_287 ?_
                        refine z_lsub C dL_law_290 ?_
                        refine z_lstore C dL_law_291 (by decide) (lv' := [(8, .long ((x10.toInt64 * (3434269619 : Int64)) - (809 : Int64))), (0, .ref bs), (1, .ref x4), (2, .ref x5), (4, .int x17), (5, .int x7), (6, .int x9), (7, .int x10)]) rfl ?_
                        refine z_aload_n C dL_law_293 2 rfl rfl ?_
                        refine z_lload C dL_law_294 0 rfl ?_
                        refine z_iconst C (v := 1) dL_law_296 (by decide) ?_
                        refine z_iload C dL_law_297 6 rfl ?_
                        refine z_bipush C (v := 60) dL_law_299 (by decide) ?_
                        refine z_irem C dL_law_301 hf (fun x29 _ hf => ?_)
                        refine z_iadd C dL_law_302 ?_
                        obtain ⟨x31, h32, n9, g30, hf, e9⟩ := zcnE hf
                        refine z_callLW (kc' := n9) (ks' := 6 * n9) CL (ML_trySimulate (xl X) CL.2.2.2 (xD X) (xT X) (xlo X) hi g30) cw_L_231 ys_L_trySimulate dL_law_303 rfl (by decide) ⟨by show 1 + _ = _; omega, by show 6 + _ = _; omega⟩ (Nat.le_of_ble_eq_true rfl) (st := []) rfl ?_
                        refine z_aload_n C dL_law_306 3 rfl rfl ?_
                        refine z_lload C dL_law_307 0 rfl ?_
                        refine z_iconst C (v := 1) dL_law_309 (by decide) ?_
                        refine z_iload C dL_law_310 6 rfl ?_
                        refine z_bipush C (v := 60) dL_law_312 (by decide) ?_
                        refine z_irem C dL_law_314 hf (fun x33 _ hf => ?_)
                        refine z_iadd C dL_law_315 ?_
                        obtain ⟨x35, h36, n9, g34, hf, e9⟩ := zcnE hf
                        refine z_callLW (kc' := n9) (ks' := 6 * n9) CL (ML_trySimulate (xl X) CL.2.2.2 (xD X) (xT X) (xlo X) hi g34) cw_L_231 ys_L_trySimulate dL_law_316 rfl (by decide) ⟨by show 1 + _ = _; omega, by show 6 + _ = _; omega⟩ (Nat.le_of_ble_eq_true rfl) (st := [.int x31]) rfl ?_
                        refine z_icmp_ne (tgt := 338) C dL_law_319 (by decide) hf (fun hf => ?_) (fun hf => ?_)
                        · refine z_sub [1, 2, 3, 5] rfl ?_
                          exact kJ28 _ _ hf
                        · refine z_aload_n C dL_law_322 2 rfl rfl ?_
                          obtain ⟨x38, h39, m40, n9, g37, hf, e9⟩ := zclE hf
                          refine z_callL (kc' := n9) (ks' := 6 * n9) CL (ML_sum (xl X) CL.2.2.2 (xD X) (xT X) (xlo X) hi g37) cw_L_186 ys_L_sum dL_law_323 rfl ⟨Nat.le_of_ble_eq_true rfl, Nat.le_of_ble_eq_true rfl⟩ ⟨by show m40 + _ = _; omega, by show 6 * m40 + _ = _; omega⟩ (Nat.le_of_ble_eq_true rfl) (st := []) rfl ?_
                          refine z_aload_n C dL_law_326 3 rfl rfl ?_
                          obtain ⟨x42, h43, m44, n9, g41, hf, e9⟩ := zclE hf
                          refine z_callL (kc' := n9) (ks' := 6 * n9) CL (ML_sum (xl X) CL.2.2.2 (xD X) (xT X) (xlo X) hi g41) cw_L_186 ys_L_sum dL_law_327 rfl ⟨Nat.le_of_ble_eq_true rfl, Nat.le_of_ble_eq_true rfl⟩ ⟨by show m44 + _ = _; omega, by show 6 * m44 + _ = _; omega⟩ (Nat.le_of_ble_eq_true rfl) (st := [.long x38]) rfl ?_
                          refine z_lcmp C dL_law_330 ?_
                          refine z_if_ne (tgt := 338) C dL_law_331 (by decide) hf (fun hf => ?_) (fun hf => ?_)
                          · refine z_sub [1, 2, 3, 5] rfl ?_
                            exact kJ28 _ _ hf
                          · refine z_iconst C (v := 1) dL_law_334 (by decide) ?_
                            refine z_goto (tgt := 339) C dL_law_335 (by decide) ?_
                            refine z_sub [1, 2, 3, 5] rfl ?_
                            exact kJ26 _ _ _ hf
            · intro J19 kJ19 hf
              refine z_iload C dL_law_199 4 rfl ?_
              refine z_iconst C (v := 5) dL_law_201 (by decide) ?_
              refine z_irem C dL_law_202 hf (fun x45 _ hf => ?_)
              refine z_iconst C (v := 4) dL_law_203 (by decide) ?_
              refine z_icmp_ne (tgt := 265) C dL_law_204 (by decide) hf (fun hf => ?_) (fun hf => ?_)
              · exact kJ19 _ _ _ hf
              · refine z_iload C dL_law_207 3 rfl ?_
                refine z_if_eq (tgt := 265) C dL_law_209 (by decide) hf (fun hf => ?_) (fun hf => ?_)
                · exact kJ19 _ _ _ hf
                · refine z_join (P := fun J => ∀ (x46 : Int32) (h47 : zH) (n9 : Nat), J x46 h47 = some (rv, rh, n9) → zW X 10 Z n9 (6 * n9) false hi h47 263 [(0, .ref bs), (1, .ref x4), (2, .ref x5), (5, .int x7), (6, .int x9), (7, .int x10)] [.int x46]) hf ?_ ?_
                  · intro x46 h47 n9 hf
                    refine z_istore C dL_law_263 (by decide) (lv' := [(4, .int x46), (0, .ref bs), (1, .ref x4), (2, .ref x5), (5, .int x7), (6, .int x9), (7, .int x10)]) rfl ?_
                    refine z_sub [1, 2, 3, 0, 4, 5, 6] rfl ?_
                    exact kJ19 _ _ _ hf
                  · intro J48 kJ48 hf
                    refine z_join (P := fun J => ∀ (h49 : zH) (n9 : Nat), J h49 = some (rv, rh, n9) → zW X 10 Z n9 (6 * n9) false hi h49 262 [(0, .ref bs), (1, .ref x4), (2, .ref x5), (5, .int x7), (6, .int x9), (7, .int x10)] []) hf ?_ ?_
                    · intro h49 n9 hf
                      refine z_iconst C (v := 0) dL_law_262 (by decide) ?_
                      exact kJ48 _ _ _ hf
                    · intro J50 kJ50 hf
                      refine z_aload_n C dL_law_212 1 rfl rfl ?_
                      refine z_iload C dL_law_213 6 rfl ?_
                      refine z_iconst C (v := 2) dL_law_215 (by decide) ?_
                      refine z_irem C dL_law_216 hf (fun x51 _ hf => ?_)
                      refine z_iload C dL_law_217 5 rfl ?_
                      refine z_bipush C (v := 16) dL_law_219 (by decide) ?_
                      refine z_idiv C dL_law_221 hf (fun x52 _ hf => ?_)
                      obtain ⟨x54, h55, m56, n9, g53, hf, e9⟩ := zclE hf
                      refine z_callL (kc' := n9) (ks' := 6 * n9) CL (ML_best (xl X) CL.2.2.2 (xD X) (xT X) (xlo X) hi g53) cw_L_266 ys_L_best dL_law_222 rfl ⟨Nat.le_of_ble_eq_true rfl, Nat.le_of_ble_eq_true rfl⟩ ⟨by show m56 + _ = _; omega, by show 6 * m56 + _ = _; omega⟩ (Nat.le_of_ble_eq_true rfl) (st := []) rfl ?_
                      refine z_if_eq (tgt := 262) C dL_law_225 (by decide) hf (fun hf => ?_) (fun hf => ?_)
                      · refine z_sub [0, 1, 2, 4, 5, 6] rfl ?_
                        exact kJ50 _ _ hf
                      · refine z_aload_n C dL_law_228 2 rfl rfl ?_
                        refine z_iload C dL_law_229 6 rfl ?_
                        refine z_iconst C (v := 2) dL_law_231 (by decide) ?_
                        refine z_irem C dL_law_232 hf (fun x57 _ hf => ?_)
                        refine z_iload C dL_law_233 5 rfl ?_
                        refine z_bipush C (v := 16) dL_law_235 (by decide) ?_
                        refine z_idiv C dL_law_237 hf (fun x58 _ hf => ?_)
                        obtain ⟨x60, h61, m62, n9, g59, hf, e9⟩ := zclE hf
                        refine z_callL (kc' := n9) (ks' := 6 * n9) CL (ML_best (xl X) CL.2.2.2 (xD X) (xT X) (xlo X) hi g59) cw_L_266 ys_L_best dL_law_238 rfl ⟨Nat.le_of_ble_eq_true rfl, Nat.le_of_ble_eq_true rfl⟩ ⟨by show m62 + _ = _; omega, by show 6 * m62 + _ = _; omega⟩ (Nat.le_of_ble_eq_true rfl) (st := []) rfl ?_
                        refine z_if_eq (tgt := 262) C dL_law_241 (by decide) hf (fun hf => ?_) (fun hf => ?_)
                        · refine z_sub [0, 1, 2, 4, 5, 6] rfl ?_
                          exact kJ50 _ _ hf
                        · refine z_aload_n C dL_law_244 1 rfl rfl ?_
                          obtain ⟨x64, h65, m66, n9, g63, hf, e9⟩ := zclE hf
                          refine z_callL (kc' := n9) (ks' := 6 * n9) CL (ML_turns (xl X) CL.2.2.2 (xD X) (xT X) (xlo X) hi g63) cw_L_270 ys_L_turns dL_law_245 rfl ⟨Nat.le_of_ble_eq_true rfl, Nat.le_of_ble_eq_true rfl⟩ ⟨by show m66 + _ = _; omega, by show 6 * m66 + _ = _; omega⟩ (Nat.le_of_ble_eq_true rfl) (st := []) rfl ?_
                          refine z_if_eq (tgt := 262) C dL_law_248 (by decide) hf (fun hf => ?_) (fun hf => ?_)
                          · refine z_sub [0, 1, 2, 4, 5, 6] rfl ?_
                            exact kJ50 _ _ hf
                          · refine z_aload_n C dL_law_251 2 rfl rfl ?_
                            obtain ⟨x68, h69, m70, n9, g67, hf, e9⟩ := zclE hf
                            refine z_callL (kc' := n9) (ks' := 6 * n9) CL (ML_turns (xl X) CL.2.2.2 (xD X) (xT X) (xlo X) hi g67) cw_L_270 ys_L_turns dL_law_252 rfl ⟨Nat.le_of_ble_eq_true rfl, Nat.le_of_ble_eq_true rfl⟩ ⟨by show m70 + _ = _; omega, by show 6 * m70 + _ = _; omega⟩ (Nat.le_of_ble_eq_true rfl) (st := []) rfl ?_
                            refine z_if_eq (tgt := 262) C dL_law_255 (by decide) hf (fun hf => ?_) (fun hf => ?_)
                            · refine z_sub [0, 1, 2, 4, 5, 6] rfl ?_
                              exact kJ50 _ _ hf
                            · refine z_iconst C (v := 1) dL_law_258 (by decide) ?_
                              refine z_goto (tgt := 263) C dL_law_259 (by decide) ?_
                              refine z_sub [0, 1, 2, 4, 5, 6] rfl ?_
                              exact kJ48 _ _ _ hf
          · intro J16 kJ16 hf
            refine z_istore C dL_law_129 (by decide) (lv' := [(4, .int x11), (0, .ref bs), (1, .ref x4), (2, .ref x5), (5, .int x7), (6, .int x9), (7, .int x10)]) rfl ?_
            refine z_iload C dL_law_131 4 rfl ?_
            refine z_iconst C (v := 3) dL_law_133 (by decide) ?_
            refine z_irem C dL_law_134 hf (fun x71 _ hf => ?_)
            refine z_iconst C (v := 2) dL_law_135 (by decide) ?_
            refine z_icmp_ne (tgt := 199) C dL_law_136 (by decide) hf (fun hf => ?_) (fun hf => ?_)
            · refine z_sub [1, 2, 3, 0, 4, 5, 6] rfl ?_
              exact kJ16 _ _ _ hf
            · refine z_iload C dL_law_139 0 rfl ?_
              refine z_if_eq (tgt := 199) C dL_law_141 (by decide) hf (fun hf => ?_) (fun hf => ?_)
              · refine z_sub [1, 2, 3, 0, 4, 5, 6] rfl ?_
                exact kJ16 _ _ _ hf
              · refine z_join (P := fun J => ∀ (x72 : Int32) (h73 : zH) (n9 : Nat), J x72 h73 = some (rv, rh, n9) → zW X 10 Z n9 (6 * n9) false hi h73 197 [(0, .ref bs), (1, .ref x4), (2, .ref x5), (5, .int x7), (6, .int x9), (7, .int x10)] [.int x72]) hf ?_ ?_
                · intro x72 h73 n9 hf
                  refine z_istore C dL_law_197 (by decide) (lv' := [(4, .int x72), (0, .ref bs), (1, .ref x4), (2, .ref x5), (5, .int x7), (6, .int x9), (7, .int x10)]) rfl ?_
                  refine z_sub [1, 2, 3, 0, 4, 5, 6] rfl ?_
                  exact kJ16 _ _ _ hf
                · intro J74 kJ74 hf
                  refine z_join (P := fun J => ∀ (h75 : zH) (n9 : Nat), J h75 = some (rv, rh, n9) → zW X 10 Z n9 (6 * n9) false hi h75 196 [(0, .ref bs), (1, .ref x4), (2, .ref x5), (5, .int x7), (6, .int x9), (7, .int x10)] []) hf ?_ ?_
                  · intro h75 n9 hf
                    refine z_iconst C (v := 0) dL_law_196 (by decide) ?_
                    exact kJ74 _ _ _ hf
                  · intro J76 kJ76 hf
                    refine z_aload_n C dL_law_144 2 rfl rfl ?_
                    obtain ⟨x78, h79, m80, n9, g77, hf, e9⟩ := zclE hf
                    refine z_callL (kc' := n9) (ks' := 6 * n9) CL (ML_marks (xl X) CL.2.2.2 (xD X) (xT X) (xlo X) hi g77) cw_L_254 ys_L_marks dL_law_145 rfl ⟨Nat.le_of_ble_eq_true rfl, Nat.le_of_ble_eq_true rfl⟩ ⟨by show m80 + _ = _; omega, by show 6 * m80 + _ = _; omega⟩ (Nat.le_of_ble_eq_true rfl) (st := []) rfl ?_
                    refine z_if_eq (tgt := 196) C dL_law_148 (by decide) hf (fun hf => ?_) (fun hf => ?_)
                    · refine z_sub [1, 2, 3, 4, 5, 6] rfl ?_
                      exact kJ76 _ _ hf
                    · refine z_aload_n C dL_law_151 2 rfl rfl ?_
                      refine z_iload C dL_law_152 4 rfl ?_
                      refine z_iconst C (v := 2) dL_law_154 (by decide) ?_
                      refine z_irem C dL_law_155 hf (fun x81 _ hf => ?_)
                      obtain ⟨x83, h84, m85, n9, g82, hf, e9⟩ := zclE hf
                      refine z_callL (kc' := n9) (ks' := 6 * n9) CL (ML_words (xl X) CL.2.2.2 (xD X) (xT X) (xlo X) hi g82) cw_L_257 ys_L_words dL_law_156 rfl ⟨Nat.le_of_ble_eq_true rfl, Nat.le_of_ble_eq_true rfl⟩ ⟨by show m85 + _ = _; omega, by show 6 * m85 + _ = _; omega⟩ (Nat.le_of_ble_eq_true rfl) (st := []) rfl ?_
                      refine z_if_eq (tgt := 196) C dL_law_159 (by decide) hf (fun hf => ?_) (fun hf => ?_)
                      · refine z_sub [1, 2, 3, 4, 5, 6] rfl ?_
                        exact kJ76 _ _ hf
                      · refine z_aload_n C dL_law_162 3 rfl rfl ?_
                        refine z_iload C dL_law_163 4 rfl ?_
                        refine z_iconst C (v := 2) dL_law_165 (by decide) ?_
                        refine z_irem C dL_law_166 hf (fun x86 _ hf => ?_)
                        obtain ⟨x88, h89, m90, n9, g87, hf, e9⟩ := zclE hf
                        refine z_callL (kc' := n9) (ks' := 6 * n9) CL (ML_reading (xl X) CL.2.2.2 (xD X) (xT X) (xlo X) hi g87) cw_L_260 ys_L_reading dL_law_167 rfl ⟨Nat.le_of_ble_eq_true rfl, Nat.le_of_ble_eq_true rfl⟩ ⟨by show m90 + _ = _; omega, by show 6 * m90 + _ = _; omega⟩ (Nat.le_of_ble_eq_true rfl) (st := []) rfl ?_
                        refine z_if_eq (tgt := 196) C dL_law_170 (by decide) hf (fun hf => ?_) (fun hf => ?_)
                        · refine z_sub [1, 2, 3, 4, 5, 6] rfl ?_
                          exact kJ76 _ _ hf
                        · refine z_aload_n C dL_law_173 3 rfl rfl ?_
                          obtain ⟨x92, h93, m94, n9, g91, hf, e9⟩ := zclE hf
                          refine z_callL (kc' := n9) (ks' := 6 * n9) CL (ML_scripts (xl X) CL.2.2.2 (xD X) (xT X) (xlo X) hi g91) cw_L_263 ys_L_scripts dL_law_174 rfl ⟨Nat.le_of_ble_eq_true rfl, Nat.le_of_ble_eq_true rfl⟩ ⟨by show m94 + _ = _; omega, by show 6 * m94 + _ = _; omega⟩ (Nat.le_of_ble_eq_true rfl) (st := []) rfl ?_
                          refine z_if_eq (tgt := 196) C dL_law_177 (by decide) hf (fun hf => ?_) (fun hf => ?_)
                          · refine z_sub [1, 2, 3, 4, 5, 6] rfl ?_
                            exact kJ76 _ _ hf
                          · refine z_aload_n C dL_law_180 2 rfl rfl ?_
                            obtain ⟨x96, h97, m98, n9, g95, hf, e9⟩ := zclE hf
                            refine z_callL (kc' := n9) (ks' := 6 * n9) CL (ML_sum (xl X) CL.2.2.2 (xD X) (xT X) (xlo X) hi g95) cw_L_186 ys_L_sum dL_law_181 rfl ⟨Nat.le_of_ble_eq_true rfl, Nat.le_of_ble_eq_true rfl⟩ ⟨by show m98 + _ = _; omega, by show 6 * m98 + _ = _; omega⟩ (Nat.le_of_ble_eq_true rfl) (st := []) rfl ?_
                            refine z_aload_n C dL_law_184 3 rfl rfl ?_
                            obtain ⟨x100, h101, m102, n9, g99, hf, e9⟩ := zclE hf
                            refine z_callL (kc' := n9) (ks' := 6 * n9) CL (ML_sum (xl X) CL.2.2.2 (xD X) (xT X) (xlo X) hi g99) cw_L_186 ys_L_sum dL_law_185 rfl ⟨Nat.le_of_ble_eq_true rfl, Nat.le_of_ble_eq_true rfl⟩ ⟨by show m102 + _ = _; omega, by show 6 * m102 + _ = _; omega⟩ (Nat.le_of_ble_eq_true rfl) (st := [.long x96]) rfl ?_
                            refine z_lcmp C dL_law_188 ?_
                            refine z_if_ne (tgt := 196) C dL_law_189 (by decide) hf (fun hf => ?_) (fun hf => ?_)
                            · refine z_sub [1, 2, 3, 4, 5, 6] rfl ?_
                              exact kJ76 _ _ hf
                            · refine z_iconst C (v := 1) dL_law_192 (by decide) ?_
                              refine z_goto (tgt := 197) C dL_law_193 (by decide) ?_
                              refine z_sub [1, 2, 3, 4, 5, 6] rfl ?_
                              exact kJ74 _ _ _ hf
        · intro J13 kJ13 hf
          refine z_join (P := fun J => ∀ (x103 : Int32) (x104 : Int32) (h105 : zH) (n9 : Nat), J x103 x104 h105 = some (rv, rh, n9) → zW X 10 Z n9 (6 * n9) false hi h105 128 [(0, .ref bs), (1, .ref x4), (2, .ref x5), (5, .int x7), (6, .int x103), (7, .int x104)] []) hf ?_ ?_
          · intro x103 x104 h105 n9 hf
            refine z_iconst C (v := 0) dL_law_128 (by decide) ?_
            exact kJ13 _ _ _ _ _ hf
          · intro J106 kJ106 hf
            refine z_aload_n C dL_law_60 0 rfl rfl ?_
            refine z_iconst C (v := 1) dL_law_61 (by decide) ?_
            refine z_iconst C (v := 2) dL_law_62 (by decide) ?_
            refine z_iload C dL_law_63 4 rfl ?_
            refine z_imul C dL_law_65 ?_
            refine z_iadd C dL_law_66 ?_
            obtain ⟨x108, g107, hf⟩ := zbind hf
            refine z_callC C hX hbl (ML_cell (xl X) (xD X) (xT X) (xlo X) hi g107) cw_L_240 ys_L_cell dL_law_67 rfl (by decide) ⟨Nat.zero_add _, Nat.zero_add _⟩ (Nat.le_of_ble_eq_true rfl) (st := []) rfl ?_
            refine z_istore C dL_law_70 (by decide) (lv' := [(6, .int x108), (0, .ref bs), (1, .ref x4), (2, .ref x5), (4, .int x6), (5, .int x7)]) rfl ?_
            refine z_aload_n C dL_law_72 1 rfl rfl ?_
            refine z_iconst C (v := 2) dL_law_73 (by decide) ?_
            refine z_iconst C (v := 2) dL_law_74 (by decide) ?_
            refine z_iload C dL_law_75 5 rfl ?_
            refine z_imul C dL_law_77 ?_
            refine z_iadd C dL_law_78 ?_
            obtain ⟨x110, g109, hf⟩ := zbind hf
            refine z_callC C hX hbl (ML_cell (xl X) (xD X) (xT X) (xlo X) hi g109) cw_L_240 ys_L_cell dL_law_79 rfl (by decide) ⟨Nat.zero_add _, Nat.zero_add _⟩ (Nat.le_of_ble_eq_true rfl) (st := []) rfl ?_
            refine z_istore C dL_law_82 (by decide) (lv' := [(7, .int x110), (6, .int x108), (0, .ref bs), (1, .ref x4), (2, .ref x5), (4, .int x6), (5, .int x7)]) rfl ?_
            refine z_aload_n C dL_law_84 4 rfl rfl ?_
            refine z_iload C dL_law_85 1 rfl ?_
            obtain ⟨x112, h113, m114, n9, g111, hf, e9⟩ := zclE hf
            refine z_callL (kc' := n9) (ks' := 6 * n9) CL (ML_fails (xl X) CL.2.2.2 (xD X) (xT X) (xlo X) hi g111) cw_L_248 ys_L_fails dL_law_87 rfl ⟨Nat.le_of_ble_eq_true rfl, Nat.le_of_ble_eq_true rfl⟩ ⟨by show m114 + _ = _; omega, by show 6 * m114 + _ = _; omega⟩ (Nat.le_of_ble_eq_true rfl) (st := []) rfl ?_
            refine z_if_eq (tgt := 128) C dL_law_90 (by decide) hf (fun hf => ?_) (fun hf => ?_)
            · refine z_sub [2, 3, 4, 6, 1, 0] rfl ?_
              exact kJ106 _ _ _ _ hf
            · refine z_aload_n C dL_law_93 3 rfl rfl ?_
              refine z_iload C dL_law_94 1 rfl ?_
              refine z_iload C dL_law_96 0 rfl ?_
              obtain ⟨x116, h117, m118, n9, g115, hf, e9⟩ := zclE hf
              refine z_callL (kc' := n9) (ks' := 6 * n9) CL (ML_act (xl X) CL.2.2.2 (xD X) (xT X) (xlo X) hi g115) cw_L_251 ys_L_act dL_law_98 rfl ⟨Nat.le_of_ble_eq_true rfl, Nat.le_of_ble_eq_true rfl⟩ ⟨by show m118 + _ = _; omega, by show 6 * m118 + _ = _; omega⟩ (Nat.le_of_ble_eq_true rfl) (st := []) rfl ?_
              refine z_aload_n C dL_law_101 4 rfl rfl ?_
              refine z_iload C dL_law_102 1 rfl ?_
              refine z_iload C dL_law_104 0 rfl ?_
              obtain ⟨x120, h121, m122, n9, g119, hf, e9⟩ := zclE hf
              refine z_callL (kc' := n9) (ks' := 6 * n9) CL (ML_act (xl X) CL.2.2.2 (xD X) (xT X) (xlo X) hi g119) cw_L_251 ys_L_act dL_law_106 rfl ⟨Nat.le_of_ble_eq_true rfl, Nat.le_of_ble_eq_true rfl⟩ ⟨by show m122 + _ = _; omega, by show 6 * m122 + _ = _; omega⟩ (Nat.le_of_ble_eq_true rfl) (st := [.int x116]) rfl ?_
              refine z_icmp_ne (tgt := 128) C dL_law_109 (by decide) hf (fun hf => ?_) (fun hf => ?_)
              · refine z_sub [2, 3, 4, 6, 1, 0] rfl ?_
                exact kJ106 _ _ _ _ hf
              · refine z_aload_n C dL_law_112 3 rfl rfl ?_
                obtain ⟨x124, h125, m126, n9, g123, hf, e9⟩ := zclE hf
                refine z_callL (kc' := n9) (ks' := 6 * n9) CL (ML_sum (xl X) CL.2.2.2 (xD X) (xT X) (xlo X) hi g123) cw_L_186 ys_L_sum dL_law_113 rfl ⟨Nat.le_of_ble_eq_true rfl, Nat.le_of_ble_eq_true rfl⟩ ⟨by show m126 + _ = _; omega, by show 6 * m126 + _ = _; omega⟩ (Nat.le_of_ble_eq_true rfl) (st := []) rfl ?_
                refine z_aload_n C dL_law_116 4 rfl rfl ?_
                obtain ⟨x128, h129, m130, n9, g127, hf, e9⟩ := zclE hf
                refine z_callL (kc' := n9) (ks' := 6 * n9) CL (ML_sum (xl X) CL.2.2.2 (xD X) (xT X) (xlo X) hi g127) cw_L_186 ys_L_sum dL_law_117 rfl ⟨Nat.le_of_ble_eq_true rfl, Nat.le_of_ble_eq_true rfl⟩ ⟨by show m130 + _ = _; omega, by show 6 * m130 + _ = _; omega⟩ (Nat.le_of_ble_eq_true rfl) (st := [.long x124]) rfl ?_
                refine z_lcmp C dL_law_120 ?_
                refine z_if_ne (tgt := 128) C dL_law_121 (by decide) hf (fun hf => ?_) (fun hf => ?_)
                · refine z_sub [2, 3, 4, 6, 1, 0] rfl ?_
                  exact kJ106 _ _ _ _ hf
                · refine z_iconst C (v := 1) dL_law_124 (by decide) ?_
                  refine z_goto (tgt := 129) C dL_law_125 (by decide) ?_
                  refine z_sub [2, 3, 4, 6, 1, 0] rfl ?_
                  exact kJ13 _ _ _ _ _ hf
def FL_law (T : zT) (xv : Nat → Int32) (L : Nat) (o : Nat) (p : Nat) (h : zH) : Option (Unit × zH × Nat) := zJ (fun (x1 : Int32) (h2 : zH) => LL_law_48 T xv L o p (fun (x131 : Int32) (h132 : zH) => if x131 = 1 then some ((), h132, 0) else none) FUEL x1 0 h2) (fun J3 => zJ (fun (h133 : zH) => J3 0 h133) (fun J134 => (FL_cell xv L 0).bind fun x136 => zcl (FL_begin T o x136 h) fun x138 h139 => if x138 = 0 then (J134 h139) else (zcl (FL_begin T p x136 h139) fun x142 h143 => if x142 = 0 then (J134 h143) else (J3 1 h143))))
set_option maxHeartbeats 4000000 in
set_option maxRecDepth 100000 in
theorem BL_law {X : zX} (CL : zCL X cL_law 10 RL (xM X).name (some .boolean) 13 302) {xv : Nat → Int32} {L bs : Nat} (hX : va_X bs L xv (xs X) (xs X).heap) (hbl : bs < xlo X) {Z : State → Prop} {hi : Nat} (hret : ∀ kc ks h lv, zW X 10 Z kc ks false hi h 349 lv [.int 1]) {h : zH} {o : Nat} {p : Nat} {rv : Unit} {rh : zH} {n9 : Nat} (hf : FL_law (xT X) xv L o p h = some (rv, rh, n9)) : zW X 10 Z n9 (6 * n9) false hi h 16 [(0, .ref bs), (1, .ref o), (2, .ref p)] [] := by
  have C := CL.1
  unfold FL_law at hf
  refine z_join (P := fun J => ∀ (x1 : Int32) (h2 : zH) (n9 : Nat), J x1 h2 = some (rv, rh, n9) → zW X 10 Z n9 (6 * n9) false hi h2 43 [(0, .ref bs), (1, .ref o), (2, .ref p)] [.int x1]) hf ?_ ?_
  · intro x1 h2 n9 hf
    refine z_istore C dL_law_43 (by decide) (lv' := [(4, .int x1), (0, .ref bs), (1, .ref o), (2, .ref p)]) rfl ?_
    refine z_iconst C (v := 0) dL_law_45 (by decide) ?_
    refine z_istore C dL_law_46 (by decide) (lv' := [(5, .int 0), (4, .int x1), (0, .ref bs), (1, .ref o), (2, .ref p)]) rfl ?_
    refine z_sub [2, 3, 4, 1, 0] rfl ?_
    refine LL_law_48_ok CL hX hbl ?_ FUEL _ _ _ _ hf
    · intro x131 h132 n9 hf
      refine z_iload C dL_law_347 0 rfl ?_
      refine z_ite hf (fun c hf => ?_) (fun c hf => nomatch hf)
      rw [c]
      exact hret _ _ _ _
  · intro J3 kJ3 hf
    refine z_join (P := fun J => ∀ (h133 : zH) (n9 : Nat), J h133 = some (rv, rh, n9) → zW X 10 Z n9 (6 * n9) false hi h133 42 [(0, .ref bs), (1, .ref o), (2, .ref p)] []) hf ?_ ?_
    · intro h133 n9 hf
      refine z_iconst C (v := 0) dL_law_42 (by decide) ?_
      exact kJ3 _ _ _ hf
    · intro J134 kJ134 hf
      refine z_aload_n C dL_law_16 0 rfl rfl ?_
      refine z_iconst C (v := 0) dL_law_17 (by decide) ?_
      obtain ⟨x136, g135, hf⟩ := zbind hf
      refine z_callC C hX hbl (ML_cell (xl X) (xD X) (xT X) (xlo X) hi g135) cw_L_240 ys_L_cell dL_law_18 rfl (by decide) ⟨Nat.zero_add _, Nat.zero_add _⟩ (Nat.le_of_ble_eq_true rfl) (st := []) rfl ?_
      refine z_istore_n C dL_law_21 rfl (by decide) (lv' := [(3, .int x136), (0, .ref bs), (1, .ref o), (2, .ref p)]) rfl ?_
      refine z_aload_n C dL_law_22 2 rfl rfl ?_
      refine z_iload_n C dL_law_23 0 rfl rfl ?_
      obtain ⟨x138, h139, m140, n9, g137, hf, e9⟩ := zclE hf
      refine z_callL (kc' := n9) (ks' := 6 * n9) CL (ML_begin (xl X) CL.2.2.2 (xD X) (xT X) (xlo X) hi g137) cw_L_244 ys_L_begin dL_law_24 rfl ⟨Nat.le_of_ble_eq_true rfl, Nat.le_of_ble_eq_true rfl⟩ ⟨by show m140 + _ = _; omega, by show 6 * m140 + _ = _; omega⟩ (Nat.le_of_ble_eq_true rfl) (st := []) rfl ?_
      refine z_if_eq (tgt := 42) C dL_law_27 (by decide) hf (fun hf => ?_) (fun hf => ?_)
      · refine z_sub [1, 2, 3] rfl ?_
        exact kJ134 _ _ hf
      · refine z_aload_n C dL_law_30 3 rfl rfl ?_
        refine z_iload_n C dL_law_31 0 rfl rfl ?_
        obtain ⟨x142, h143, m144, n9, g141, hf, e9⟩ := zclE hf
        refine z_callL (kc' := n9) (ks' := 6 * n9) CL (ML_begin (xl X) CL.2.2.2 (xD X) (xT X) (xlo X) hi g141) cw_L_244 ys_L_begin dL_law_32 rfl ⟨Nat.le_of_ble_eq_true rfl, Nat.le_of_ble_eq_true rfl⟩ ⟨by show m144 + _ = _; omega, by show 6 * m144 + _ = _; omega⟩ (Nat.le_of_ble_eq_true rfl) (st := []) rfl ?_
        refine z_if_eq (tgt := 42) C dL_law_35 (by decide) hf (fun hf => ?_) (fun hf => ?_)
        · refine z_sub [1, 2, 3] rfl ?_
          exact kJ134 _ _ hf
        · refine z_iconst C (v := 1) dL_law_38 (by decide) ?_
          refine z_goto (tgt := 43) C dL_law_39 (by decide) ?_
          refine z_sub [1, 2, 3] rfl ?_
          exact kJ3 _ _ _ hf
