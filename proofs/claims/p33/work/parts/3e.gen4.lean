theorem mw_12 : (Jvm.Cond.selects "CrossedSheet" ({ cls := "CrossedSheet", name := "checkCell", desc := "(II)V" } : Jvm.MethodName) ({ cls := "CrossedSheet", name := "checkCell", desc := "(II)V" } : Jvm.MethodName)) ∈ TW := TWm 12 (by decide +kernel) (by decide +kernel)
theorem mw_13 : (Jvm.Cond.selects "CrossedSheet" ({ cls := "CrossedSheet", name := "checkMark", desc := "(III)V" } : Jvm.MethodName) ({ cls := "CrossedSheet", name := "checkMark", desc := "(III)V" } : Jvm.MethodName)) ∈ TW := TWm 13 (by decide +kernel) (by decide +kernel)
theorem mw_14 : (Jvm.Cond.selects "CrossedSheet" ({ cls := "CrossedSheet", name := "checkWord", desc := "(I)V" } : Jvm.MethodName) ({ cls := "CrossedSheet", name := "checkWord", desc := "(I)V" } : Jvm.MethodName)) ∈ TW := TWm 14 (by decide +kernel) (by decide +kernel)
theorem mw_36 : (Jvm.Cond.initialized "java/lang/IllegalArgumentException") ∈ TW := TWm 36 (by decide +kernel) (by decide +kernel)
theorem mw_37 : (Jvm.Cond.initialized "java/lang/IllegalStateException") ∈ TW := TWm 37 (by decide +kernel) (by decide +kernel)
theorem mw_40 : (Jvm.Cond.initialized "java/lang/IndexOutOfBoundsException") ∈ TW := TWm 40 (by decide +kernel) (by decide +kernel)
theorem mw_131 : (Jvm.Cond.fieldLink "CrossedSheet" (137 : Nat) "CrossedSheet$Sheet" "letterInks" "LCrossedSheet$Numbers;") ∈ TW := TWm 131 (by decide +kernel) (by decide +kernel)
theorem mw_133 : (Jvm.Cond.fieldLink "CrossedSheet" (143 : Nat) "CrossedSheet$Sheet" "letterSlants" "LCrossedSheet$Numbers;") ∈ TW := TWm 133 (by decide +kernel) (by decide +kernel)
theorem mw_136 : (Jvm.Cond.fieldLink "CrossedSheet" (146 : Nat) "CrossedSheet$Sheet" "letterWays" "LCrossedSheet$Numbers;") ∈ TW := TWm 136 (by decide +kernel) (by decide +kernel)
theorem mw_140 : (Jvm.Cond.fieldLink "CrossedSheet" (166 : Nat) "CrossedSheet$Sheet" "signs" "LCrossedSheet$Numbers;") ∈ TW := TWm 140 (by decide +kernel) (by decide +kernel)
theorem mw_142 : (Jvm.Cond.fieldLink "CrossedSheet" (169 : Nat) "CrossedSheet$Sheet" "inks" "LCrossedSheet$Numbers;") ∈ TW := TWm 142 (by decide +kernel) (by decide +kernel)
theorem mw_144 : (Jvm.Cond.fieldLink "CrossedSheet" (172 : Nat) "CrossedSheet$Sheet" "slants" "LCrossedSheet$Numbers;") ∈ TW := TWm 144 (by decide +kernel) (by decide +kernel)
theorem mw_146 : (Jvm.Cond.fieldLink "CrossedSheet" (175 : Nat) "CrossedSheet$Sheet" "decisions" "LCrossedSheet$Numbers;") ∈ TW := TWm 146 (by decide +kernel) (by decide +kernel)
theorem mw_220 : (Jvm.Cond.fieldLink "CrossedSheet" (131 : Nat) "CrossedSheet$Reading" "markCount" "I") ∈ TW := TWm 220 (by decide +kernel) (by decide +kernel)
theorem mw_222 : (Jvm.Cond.fieldLink "CrossedSheet" (201 : Nat) "CrossedSheet$Reading" "wordsOfCells" "LCrossedSheet$Numbers;") ∈ TW := TWm 222 (by decide +kernel) (by decide +kernel)
theorem mw_293 : (Jvm.Cond.methodLink "CrossedSheet" (72 : Nat) ({ cls := "CrossedSheet", name := "checkArgument", desc := "(III)V" } : Jvm.MethodName)) ∈ TW := TWm 293 (by decide +kernel) (by decide +kernel)
theorem mw_294 : (Jvm.Cond.static ({ cls := "CrossedSheet", name := "checkArgument", desc := "(III)V" } : Jvm.MethodName)) ∈ TW := TWm 294 (by decide +kernel) (by decide +kernel)
theorem mw_295 : (Jvm.Cond.code ({ cls := "CrossedSheet", name := "checkArgument", desc := "(III)V" } : Jvm.MethodName) prog_1_method_32_code (3 : Nat) (Option.none : Option Jvm.ClassFile.FieldType)) ∈ TW := TWm 295 (by decide +kernel) (by decide +kernel)
theorem mw_296 : (Jvm.Cond.classLink "CrossedSheet" (193 : Nat) "java/lang/IllegalArgumentException") ∈ TW := TWm 296 (by decide +kernel) (by decide +kernel)
theorem mw_491 : (Jvm.Cond.classLink "CrossedSheet" (76 : Nat) "java/lang/IllegalStateException") ∈ TW := TWm 491 (by decide +kernel) (by decide +kernel)
theorem mw_569 : (Jvm.Cond.methodLink "CrossedSheet" (97 : Nat) ({ cls := "CrossedSheet$History", name := "forget", desc := "()V" } : Jvm.MethodName)) ∈ TW := TWm 569 (by decide +kernel) (by decide +kernel)
theorem mw_570 : (Jvm.Cond.instanceMethod ({ cls := "CrossedSheet$History", name := "forget", desc := "()V" } : Jvm.MethodName)) ∈ TW := TWm 570 (by decide +kernel) (by decide +kernel)
theorem mw_571 : (Jvm.Cond.selects "CrossedSheet$History" ({ cls := "CrossedSheet$History", name := "forget", desc := "()V" } : Jvm.MethodName) ({ cls := "CrossedSheet$History", name := "forget", desc := "()V" } : Jvm.MethodName)) ∈ TW := TWm 571 (by decide +kernel) (by decide +kernel)
theorem mw_572 : (Jvm.Cond.code ({ cls := "CrossedSheet$History", name := "forget", desc := "()V" } : Jvm.MethodName) prog_2_method_4_code (1 : Nat) (Option.none : Option Jvm.ClassFile.FieldType)) ∈ TW := TWm 572 (by decide +kernel) (by decide +kernel)
theorem mw_573 : (Jvm.Cond.methodLink "CrossedSheet" (100 : Nat) ({ cls := "CrossedSheet$Shelf", name := "clear", desc := "()V" } : Jvm.MethodName)) ∈ TW := TWm 573 (by decide +kernel) (by decide +kernel)
theorem mw_574 : (Jvm.Cond.instanceMethod ({ cls := "CrossedSheet$Shelf", name := "clear", desc := "()V" } : Jvm.MethodName)) ∈ TW := TWm 574 (by decide +kernel) (by decide +kernel)
theorem mw_575 : (Jvm.Cond.selects "CrossedSheet$Shelf" ({ cls := "CrossedSheet$Shelf", name := "clear", desc := "()V" } : Jvm.MethodName) ({ cls := "CrossedSheet$Shelf", name := "clear", desc := "()V" } : Jvm.MethodName)) ∈ TW := TWm 575 (by decide +kernel) (by decide +kernel)
theorem mw_576 : (Jvm.Cond.code ({ cls := "CrossedSheet$Shelf", name := "clear", desc := "()V" } : Jvm.MethodName) prog_6_method_5_code (1 : Nat) (Option.none : Option Jvm.ClassFile.FieldType)) ∈ TW := TWm 576 (by decide +kernel) (by decide +kernel)
theorem mw_578 : (Jvm.Cond.methodLink "CrossedSheet" (103 : Nat) ({ cls := "CrossedSheet$Sheet", name := "countMarks", desc := "()I" } : Jvm.MethodName)) ∈ TW := TWm 578 (by decide +kernel) (by decide +kernel)
theorem mw_579 : (Jvm.Cond.instanceMethod ({ cls := "CrossedSheet$Sheet", name := "countMarks", desc := "()I" } : Jvm.MethodName)) ∈ TW := TWm 579 (by decide +kernel) (by decide +kernel)
theorem mw_580 : (Jvm.Cond.selects "CrossedSheet$Sheet" ({ cls := "CrossedSheet$Sheet", name := "countMarks", desc := "()I" } : Jvm.MethodName) ({ cls := "CrossedSheet$Sheet", name := "countMarks", desc := "()I" } : Jvm.MethodName)) ∈ TW := TWm 580 (by decide +kernel) (by decide +kernel)
theorem mw_581 : (Jvm.Cond.code ({ cls := "CrossedSheet$Sheet", name := "countMarks", desc := "()I" } : Jvm.MethodName) prog_5_method_27_code (4 : Nat) (Option.some Jvm.ClassFile.FieldType.int)) ∈ TW := TWm 581 (by decide +kernel) (by decide +kernel)
theorem mw_589 : (Jvm.Cond.methodLink "CrossedSheet" (115 : Nat) ({ cls := "CrossedSheet$Sheet", name := "countDecided", desc := "()I" } : Jvm.MethodName)) ∈ TW := TWm 589 (by decide +kernel) (by decide +kernel)
theorem mw_590 : (Jvm.Cond.instanceMethod ({ cls := "CrossedSheet$Sheet", name := "countDecided", desc := "()I" } : Jvm.MethodName)) ∈ TW := TWm 590 (by decide +kernel) (by decide +kernel)
theorem mw_591 : (Jvm.Cond.selects "CrossedSheet$Sheet" ({ cls := "CrossedSheet$Sheet", name := "countDecided", desc := "()I" } : Jvm.MethodName) ({ cls := "CrossedSheet$Sheet", name := "countDecided", desc := "()I" } : Jvm.MethodName)) ∈ TW := TWm 591 (by decide +kernel) (by decide +kernel)
theorem mw_592 : (Jvm.Cond.code ({ cls := "CrossedSheet$Sheet", name := "countDecided", desc := "()I" } : Jvm.MethodName) prog_5_method_29_code (5 : Nat) (Option.some Jvm.ClassFile.FieldType.int)) ∈ TW := TWm 592 (by decide +kernel) (by decide +kernel)
theorem mw_593 : (Jvm.Cond.methodLink "CrossedSheet" (124 : Nat) ({ cls := "CrossedSheet$Sheet", name := "countFullCells", desc := "()I" } : Jvm.MethodName)) ∈ TW := TWm 593 (by decide +kernel) (by decide +kernel)
theorem mw_594 : (Jvm.Cond.instanceMethod ({ cls := "CrossedSheet$Sheet", name := "countFullCells", desc := "()I" } : Jvm.MethodName)) ∈ TW := TWm 594 (by decide +kernel) (by decide +kernel)
theorem mw_595 : (Jvm.Cond.selects "CrossedSheet$Sheet" ({ cls := "CrossedSheet$Sheet", name := "countFullCells", desc := "()I" } : Jvm.MethodName) ({ cls := "CrossedSheet$Sheet", name := "countFullCells", desc := "()I" } : Jvm.MethodName)) ∈ TW := TWm 595 (by decide +kernel) (by decide +kernel)
theorem mw_596 : (Jvm.Cond.code ({ cls := "CrossedSheet$Sheet", name := "countFullCells", desc := "()I" } : Jvm.MethodName) prog_5_method_30_code (4 : Nat) (Option.some Jvm.ClassFile.FieldType.int)) ∈ TW := TWm 596 (by decide +kernel) (by decide +kernel)
theorem mw_609 : (Jvm.Cond.methodLink "CrossedSheet" (134 : Nat) ({ cls := "CrossedSheet", name := "checkLetter", desc := "(I)V" } : Jvm.MethodName)) ∈ TW := TWm 609 (by decide +kernel) (by decide +kernel)
theorem mw_610 : (Jvm.Cond.static ({ cls := "CrossedSheet", name := "checkLetter", desc := "(I)V" } : Jvm.MethodName)) ∈ TW := TWm 610 (by decide +kernel) (by decide +kernel)
theorem mw_611 : (Jvm.Cond.code ({ cls := "CrossedSheet", name := "checkLetter", desc := "(I)V" } : Jvm.MethodName) prog_1_method_33_code (1 : Nat) (Option.none : Option Jvm.ClassFile.FieldType)) ∈ TW := TWm 611 (by decide +kernel) (by decide +kernel)
theorem mw_613 : (Jvm.Cond.classLink "CrossedSheet" (316 : Nat) "java/lang/IndexOutOfBoundsException") ∈ TW := TWm 613 (by decide +kernel) (by decide +kernel)
theorem mw_629 : (Jvm.Cond.methodLink "CrossedSheet" (149 : Nat) ({ cls := "CrossedSheet$Reading", name := "longest", desc := "()I" } : Jvm.MethodName)) ∈ TW := TWm 629 (by decide +kernel) (by decide +kernel)
theorem mw_630 : (Jvm.Cond.instanceMethod ({ cls := "CrossedSheet$Reading", name := "longest", desc := "()I" } : Jvm.MethodName)) ∈ TW := TWm 630 (by decide +kernel) (by decide +kernel)
theorem mw_631 : (Jvm.Cond.selects "CrossedSheet$Reading" ({ cls := "CrossedSheet$Reading", name := "longest", desc := "()I" } : Jvm.MethodName) ({ cls := "CrossedSheet$Reading", name := "longest", desc := "()I" } : Jvm.MethodName)) ∈ TW := TWm 631 (by decide +kernel) (by decide +kernel)
theorem mw_632 : (Jvm.Cond.code ({ cls := "CrossedSheet$Reading", name := "longest", desc := "()I" } : Jvm.MethodName) prog_4_method_8_code (3 : Nat) (Option.some Jvm.ClassFile.FieldType.int)) ∈ TW := TWm 632 (by decide +kernel) (by decide +kernel)
theorem mw_652 : (Jvm.Cond.methodLink "CrossedSheet" (152 : Nat) ({ cls := "CrossedSheet", name := "checkCell", desc := "(II)V" } : Jvm.MethodName)) ∈ TW := TWm 652 (by decide +kernel) (by decide +kernel)
theorem mw_654 : (Jvm.Cond.instanceMethod ({ cls := "CrossedSheet", name := "checkCell", desc := "(II)V" } : Jvm.MethodName)) ∈ TW := TWm 654 (by decide +kernel) (by decide +kernel)
theorem mw_655 : (Jvm.Cond.code ({ cls := "CrossedSheet", name := "checkCell", desc := "(II)V" } : Jvm.MethodName) prog_1_method_35_code (3 : Nat) (Option.none : Option Jvm.ClassFile.FieldType)) ∈ TW := TWm 655 (by decide +kernel) (by decide +kernel)
theorem mw_656 : (Jvm.Cond.methodLink "CrossedSheet" (323 : Nat) ({ cls := "CrossedSheet$Sheet", name := "hasCell", desc := "(II)Z" } : Jvm.MethodName)) ∈ TW := TWm 656 (by decide +kernel) (by decide +kernel)
theorem mw_658 : (Jvm.Cond.methodLink "CrossedSheet" (155 : Nat) ({ cls := "CrossedSheet$Sheet", name := "marksIn", desc := "(II)I" } : Jvm.MethodName)) ∈ TW := TWm 658 (by decide +kernel) (by decide +kernel)
theorem mw_666 : (Jvm.Cond.methodLink "CrossedSheet" (159 : Nat) ({ cls := "CrossedSheet", name := "checkMark", desc := "(III)V" } : Jvm.MethodName)) ∈ TW := TWm 666 (by decide +kernel) (by decide +kernel)
theorem mw_668 : (Jvm.Cond.instanceMethod ({ cls := "CrossedSheet", name := "checkMark", desc := "(III)V" } : Jvm.MethodName)) ∈ TW := TWm 668 (by decide +kernel) (by decide +kernel)
theorem mw_669 : (Jvm.Cond.code ({ cls := "CrossedSheet", name := "checkMark", desc := "(III)V" } : Jvm.MethodName) prog_1_method_36_code (4 : Nat) (Option.none : Option Jvm.ClassFile.FieldType)) ∈ TW := TWm 669 (by decide +kernel) (by decide +kernel)
theorem mw_672 : (Jvm.Cond.methodLink "CrossedSheet" (162 : Nat) ({ cls := "CrossedSheet", name := "placeOf", desc := "(III)I" } : Jvm.MethodName)) ∈ TW := TWm 672 (by decide +kernel) (by decide +kernel)
theorem mw_677 : (Jvm.Cond.methodLink "CrossedSheet" (181 : Nat) ({ cls := "CrossedSheet$Sheet", name := "ruleOf", desc := "(III)I" } : Jvm.MethodName)) ∈ TW := TWm 677 (by decide +kernel) (by decide +kernel)
theorem mw_678 : (Jvm.Cond.instanceMethod ({ cls := "CrossedSheet$Sheet", name := "ruleOf", desc := "(III)I" } : Jvm.MethodName)) ∈ TW := TWm 678 (by decide +kernel) (by decide +kernel)
theorem mw_679 : (Jvm.Cond.selects "CrossedSheet$Sheet" ({ cls := "CrossedSheet$Sheet", name := "ruleOf", desc := "(III)I" } : Jvm.MethodName) ({ cls := "CrossedSheet$Sheet", name := "ruleOf", desc := "(III)I" } : Jvm.MethodName)) ∈ TW := TWm 679 (by decide +kernel) (by decide +kernel)
theorem mw_680 : (Jvm.Cond.code ({ cls := "CrossedSheet$Sheet", name := "ruleOf", desc := "(III)I" } : Jvm.MethodName) prog_5_method_26_code (4 : Nat) (Option.some Jvm.ClassFile.FieldType.int)) ∈ TW := TWm 680 (by decide +kernel) (by decide +kernel)
theorem mw_681 : (Jvm.Cond.methodLink "CrossedSheet" (184 : Nat) ({ cls := "CrossedSheet$Sheet", name := "distance", desc := "(II)I" } : Jvm.MethodName)) ∈ TW := TWm 681 (by decide +kernel) (by decide +kernel)
theorem mw_689 : (Jvm.Cond.methodLink "CrossedSheet" (187 : Nat) ({ cls := "CrossedSheet", name := "checkWord", desc := "(I)V" } : Jvm.MethodName)) ∈ TW := TWm 689 (by decide +kernel) (by decide +kernel)
theorem mw_691 : (Jvm.Cond.instanceMethod ({ cls := "CrossedSheet", name := "checkWord", desc := "(I)V" } : Jvm.MethodName)) ∈ TW := TWm 691 (by decide +kernel) (by decide +kernel)
theorem mw_692 : (Jvm.Cond.code ({ cls := "CrossedSheet", name := "checkWord", desc := "(I)V" } : Jvm.MethodName) prog_1_method_37_code (2 : Nat) (Option.none : Option Jvm.ClassFile.FieldType)) ∈ TW := TWm 692 (by decide +kernel) (by decide +kernel)
theorem mw_693 : (Jvm.Cond.methodLink "CrossedSheet" (334 : Nat) ({ cls := "CrossedSheet$Reading", name := "hasNumber", desc := "(I)Z" } : Jvm.MethodName)) ∈ TW := TWm 693 (by decide +kernel) (by decide +kernel)
theorem mw_704 : (Jvm.Cond.methodLink "CrossedSheet" (198 : Nat) ({ cls := "CrossedSheet$Reading", name := "signAt", desc := "(II)I" } : Jvm.MethodName)) ∈ TW := TWm 704 (by decide +kernel) (by decide +kernel)
theorem fl_X6_131 : zF RX6 131 2 1 .int false := ⟨RX2, TX2, 9, tyX2, rfl, inTX2, by decide, mw_220, by decide +kernel, tyX2_ok, nmX2, rfl⟩
theorem fl_X6_137 : zF RX6 137 3 4 (.object "CrossedSheet$Numbers") true := ⟨RX3, TX3, 12, tyX3, rfl, inTX3, by decide, mw_131, by decide +kernel, tyX3_ok, nmX3, rfl⟩
theorem fl_X6_143 : zF RX6 143 3 5 (.object "CrossedSheet$Numbers") true := ⟨RX3, TX3, 12, tyX3, rfl, inTX3, by decide, mw_133, by decide +kernel, tyX3_ok, nmX3, rfl⟩
theorem fl_X6_146 : zF RX6 146 3 6 (.object "CrossedSheet$Numbers") true := ⟨RX3, TX3, 12, tyX3, rfl, inTX3, by decide, mw_136, by decide +kernel, tyX3_ok, nmX3, rfl⟩
theorem fl_X6_166 : zF RX6 166 3 8 (.object "CrossedSheet$Numbers") true := ⟨RX3, TX3, 12, tyX3, rfl, inTX3, by decide, mw_140, by decide +kernel, tyX3_ok, nmX3, rfl⟩
theorem fl_X6_169 : zF RX6 169 3 9 (.object "CrossedSheet$Numbers") true := ⟨RX3, TX3, 12, tyX3, rfl, inTX3, by decide, mw_142, by decide +kernel, tyX3_ok, nmX3, rfl⟩
theorem fl_X6_172 : zF RX6 172 3 10 (.object "CrossedSheet$Numbers") true := ⟨RX3, TX3, 12, tyX3, rfl, inTX3, by decide, mw_144, by decide +kernel, tyX3_ok, nmX3, rfl⟩
theorem fl_X6_175 : zF RX6 175 3 11 (.object "CrossedSheet$Numbers") true := ⟨RX3, TX3, 12, tyX3, rfl, inTX3, by decide, mw_146, by decide +kernel, tyX3_ok, nmX3, rfl⟩
theorem fl_X6_201 : zF RX6 201 2 2 (.object "CrossedSheet$Numbers") true := ⟨RX2, TX2, 9, tyX2, rfl, inTX2, by decide, mw_222, by decide +kernel, tyX2_ok, nmX2, rfl⟩
theorem yv_X0_forget : yX0_forget.cls = RX0 ∧ yX0_forget.cls ≠ "java/lang/invoke/MethodHandle" ∧ yX0_forget.cls ≠ "java/lang/invoke/VarHandle" ∧ (parseMethodDescriptor yX0_forget.desc).map (fun d => d.parameters.length) = some 0 := by decide +kernel
theorem yv_X2_longest : yX2_longest.cls = RX2 ∧ yX2_longest.cls ≠ "java/lang/invoke/MethodHandle" ∧ yX2_longest.cls ≠ "java/lang/invoke/VarHandle" ∧ (parseMethodDescriptor yX2_longest.desc).map (fun d => d.parameters.length) = some 0 := by decide +kernel
theorem yv_X3_countDecided : yX3_countDecided.cls = RX3 ∧ yX3_countDecided.cls ≠ "java/lang/invoke/MethodHandle" ∧ yX3_countDecided.cls ≠ "java/lang/invoke/VarHandle" ∧ (parseMethodDescriptor yX3_countDecided.desc).map (fun d => d.parameters.length) = some 0 := by decide +kernel
theorem yv_X3_countFullCells : yX3_countFullCells.cls = RX3 ∧ yX3_countFullCells.cls ≠ "java/lang/invoke/MethodHandle" ∧ yX3_countFullCells.cls ≠ "java/lang/invoke/VarHandle" ∧ (parseMethodDescriptor yX3_countFullCells.desc).map (fun d => d.parameters.length) = some 0 := by decide +kernel
theorem yv_X3_countMarks : yX3_countMarks.cls = RX3 ∧ yX3_countMarks.cls ≠ "java/lang/invoke/MethodHandle" ∧ yX3_countMarks.cls ≠ "java/lang/invoke/VarHandle" ∧ (parseMethodDescriptor yX3_countMarks.desc).map (fun d => d.parameters.length) = some 0 := by decide +kernel
theorem yv_X3_ruleOf : yX3_ruleOf.cls = RX3 ∧ yX3_ruleOf.cls ≠ "java/lang/invoke/MethodHandle" ∧ yX3_ruleOf.cls ≠ "java/lang/invoke/VarHandle" ∧ (parseMethodDescriptor yX3_ruleOf.desc).map (fun d => d.parameters.length) = some 3 := by decide +kernel
theorem yv_X4_clear : yX4_clear.cls = RX4 ∧ yX4_clear.cls ≠ "java/lang/invoke/MethodHandle" ∧ yX4_clear.cls ≠ "java/lang/invoke/VarHandle" ∧ (parseMethodDescriptor yX4_clear.desc).map (fun d => d.parameters.length) = some 0 := by decide +kernel
theorem ys_X6_checkArgument : yX6_checkArgument.cls ≠ "java/lang/invoke/MethodHandle" ∧ yX6_checkArgument.cls ≠ "java/lang/invoke/VarHandle" ∧ (parseMethodDescriptor yX6_checkArgument.desc).map (fun d => d.parameters.length) = some 3 := by decide +kernel
theorem yv_X6_checkCell : yX6_checkCell.cls = RX6 ∧ yX6_checkCell.cls ≠ "java/lang/invoke/MethodHandle" ∧ yX6_checkCell.cls ≠ "java/lang/invoke/VarHandle" ∧ (parseMethodDescriptor yX6_checkCell.desc).map (fun d => d.parameters.length) = some 2 := by decide +kernel
theorem ys_X6_checkLetter : yX6_checkLetter.cls ≠ "java/lang/invoke/MethodHandle" ∧ yX6_checkLetter.cls ≠ "java/lang/invoke/VarHandle" ∧ (parseMethodDescriptor yX6_checkLetter.desc).map (fun d => d.parameters.length) = some 1 := by decide +kernel
theorem yv_X6_checkMark : yX6_checkMark.cls = RX6 ∧ yX6_checkMark.cls ≠ "java/lang/invoke/MethodHandle" ∧ yX6_checkMark.cls ≠ "java/lang/invoke/VarHandle" ∧ (parseMethodDescriptor yX6_checkMark.desc).map (fun d => d.parameters.length) = some 3 := by decide +kernel
theorem yv_X6_checkWord : yX6_checkWord.cls = RX6 ∧ yX6_checkWord.cls ≠ "java/lang/invoke/MethodHandle" ∧ yX6_checkWord.cls ≠ "java/lang/invoke/VarHandle" ∧ (parseMethodDescriptor yX6_checkWord.desc).map (fun d => d.parameters.length) = some 1 := by decide +kernel
theorem ts_X6_195 : zTS RX6 "java/lang/IllegalArgumentException" "a negative number of a sign" 193 195 197 := ⟨mw_296, mw_36, by decide +kernel, by decide +kernel, by decide +kernel, by decide +kernel, by decide +kernel, by decide +kernel⟩
theorem ts_X6_311 : zTS RX6 "java/lang/IllegalArgumentException" "an argument is out of its range" 193 311 197 := ⟨mw_296, mw_36, by decide +kernel, by decide +kernel, by decide +kernel, by decide +kernel, by decide +kernel, by decide +kernel⟩
theorem ts_X6_78 : zTS RX6 "java/lang/IllegalStateException" "the text is full" 76 78 80 := ⟨mw_491, mw_37, by decide +kernel, by decide +kernel, by decide +kernel, by decide +kernel, by decide +kernel, by decide +kernel⟩
theorem ts_X6_91 : zTS RX6 "java/lang/IllegalStateException" "the text is not a sheet" 76 91 80 := ⟨mw_491, mw_37, by decide +kernel, by decide +kernel, by decide +kernel, by decide +kernel, by decide +kernel, by decide +kernel⟩
theorem ts_X6_211 : zTS RX6 "java/lang/IllegalStateException" "the cell has two marks" 76 211 80 := ⟨mw_491, mw_37, by decide +kernel, by decide +kernel, by decide +kernel, by decide +kernel, by decide +kernel, by decide +kernel⟩
theorem ts_X6_227 : zTS RX6 "java/lang/IllegalStateException" "the other mark of the cell is decided for this letter" 76 227 80 := ⟨mw_491, mw_37, by decide +kernel, by decide +kernel, by decide +kernel, by decide +kernel, by decide +kernel, by decide +kernel⟩
theorem ts_X6_318 : zTS RX6 "java/lang/IndexOutOfBoundsException" "no such letter" 316 318 320 := ⟨mw_613, mw_40, by decide +kernel, by decide +kernel, by decide +kernel, by decide +kernel, by decide +kernel, by decide +kernel⟩
theorem ts_X6_326 : zTS RX6 "java/lang/IndexOutOfBoundsException" "no such cell" 316 326 320 := ⟨mw_613, mw_40, by decide +kernel, by decide +kernel, by decide +kernel, by decide +kernel, by decide +kernel, by decide +kernel⟩
theorem ts_X6_332 : zTS RX6 "java/lang/IndexOutOfBoundsException" "no such cell or mark" 316 332 320 := ⟨mw_613, mw_40, by decide +kernel, by decide +kernel, by decide +kernel, by decide +kernel, by decide +kernel, by decide +kernel⟩
theorem ts_X6_337 : zTS RX6 "java/lang/IndexOutOfBoundsException" "no such word" 316 337 320 := ⟨mw_613, mw_40, by decide +kernel, by decide +kernel, by decide +kernel, by decide +kernel, by decide +kernel, by decide +kernel⟩
theorem cw_X6_72 : GoodIn TW (va_wsS RX6 72 yX6_checkArgument (.code yX6_checkArgument cX6_checkArgument 3 none :: TW)) := zGS mw_293 mw_294 mw_26 mw_295
theorem cw_X6_97 : GoodIn TW (wsV RX6 97 RX0 yX0_forget (.code yX0_forget cX0_forget 1 none :: TW)) := zGV mw_569 mw_570 mw_571 mw_30 mw_572
theorem cw_X6_100 : GoodIn TW (wsV RX6 100 RX4 yX4_clear (.code yX4_clear cX4_clear 1 none :: TW)) := zGV mw_573 mw_574 mw_575 mw_31 mw_576
theorem cw_X6_103 : GoodIn TW (wsV RX6 103 RX3 yX3_countMarks (.code yX3_countMarks cX3_countMarks 4 (some .int) :: TW)) := zGV mw_578 mw_579 mw_580 mw_29 mw_581
theorem cw_X6_115 : GoodIn TW (wsV RX6 115 RX3 yX3_countDecided (.code yX3_countDecided cX3_countDecided 5 (some .int) :: TW)) := zGV mw_589 mw_590 mw_591 mw_29 mw_592
theorem cw_X6_124 : GoodIn TW (wsV RX6 124 RX3 yX3_countFullCells (.code yX3_countFullCells cX3_countFullCells 4 (some .int) :: TW)) := zGV mw_593 mw_594 mw_595 mw_29 mw_596
theorem cw_X6_134 : GoodIn TW (va_wsS RX6 134 yX6_checkLetter (.code yX6_checkLetter cX6_checkLetter 1 none :: TW)) := zGS mw_609 mw_610 mw_26 mw_611
theorem cw_X6_149 : GoodIn TW (wsV RX6 149 RX2 yX2_longest (.code yX2_longest cX2_longest 3 (some .int) :: TW)) := zGV mw_629 mw_630 mw_631 mw_32 mw_632
theorem cw_X6_152 : GoodIn TW (wsV RX6 152 RX6 yX6_checkCell (.code yX6_checkCell cX6_checkCell 3 none :: TW)) := zGV mw_652 mw_654 mw_12 mw_26 mw_655
theorem cw_X6_155 : GoodIn TW (wsV RX6 155 RX3 yX3_marksIn (.code yX3_marksIn cX3_marksIn 3 (some .int) :: TW)) := zGV mw_658 mw_416 mw_417 mw_29 mw_418
theorem cw_X6_159 : GoodIn TW (wsV RX6 159 RX6 yX6_checkMark (.code yX6_checkMark cX6_checkMark 4 none :: TW)) := zGV mw_666 mw_668 mw_13 mw_26 mw_669
theorem cw_X6_162 : GoodIn TW (va_wsS RX6 162 yX6_placeOf (.code yX6_placeOf cX6_placeOf 3 (some .int) :: TW)) := zGS mw_672 mw_408 mw_26 mw_409
theorem cw_X6_181 : GoodIn TW (wsV RX6 181 RX3 yX3_ruleOf (.code yX3_ruleOf cX3_ruleOf 4 (some .int) :: TW)) := zGV mw_677 mw_678 mw_679 mw_29 mw_680
theorem cw_X6_184 : GoodIn TW (wsV RX6 184 RX3 yX3_distance (.code yX3_distance cX3_distance 3 (some .int) :: TW)) := zGV mw_681 mw_444 mw_445 mw_29 mw_446
theorem cw_X6_187 : GoodIn TW (wsV RX6 187 RX6 yX6_checkWord (.code yX6_checkWord cX6_checkWord 2 none :: TW)) := zGV mw_689 mw_691 mw_14 mw_26 mw_692
theorem cw_X6_198 : GoodIn TW (wsV RX6 198 RX2 yX2_signAt (.code yX2_signAt cX2_signAt 3 (some .int) :: TW)) := zGV mw_704 mw_705 mw_706 mw_32 mw_707
theorem cw_X6_323 : GoodIn TW (wsV RX6 323 RX3 yX3_hasCell (.code yX3_hasCell cX3_hasCell 3 (some .boolean) :: TW)) := zGV mw_656 mw_389 mw_390 mw_29 mw_391
theorem cw_X6_334 : GoodIn TW (wsV RX6 334 RX2 yX2_hasNumber (.code yX2_hasNumber cX2_hasNumber 2 (some .boolean) :: TW)) := zGV mw_693 mw_638 mw_639 mw_32 mw_640
theorem dX6_checkArgument_0 : decode cX6_checkArgument 0 = .ok (.iload_n 0, 1) := by decide +kernel
theorem dX6_checkArgument_1 : decode cX6_checkArgument 1 = .ok (.iload_n 1, 1) := by decide +kernel
theorem dX6_checkArgument_2 : decode cX6_checkArgument 2 = .ok (.if_icmp .lt 8, 3) := by decide +kernel
theorem dX6_checkArgument_5 : decode cX6_checkArgument 5 = .ok (.iload_n 0, 1) := by decide +kernel
theorem dX6_checkArgument_6 : decode cX6_checkArgument 6 = .ok (.iload_n 2, 1) := by decide +kernel
theorem dX6_checkArgument_7 : decode cX6_checkArgument 7 = .ok (.if_icmp .le 14, 3) := by decide +kernel
theorem dX6_checkArgument_10 : decode cX6_checkArgument 10 = .ok (.new 193, 3) := by decide +kernel
theorem dX6_checkArgument_13 : decode cX6_checkArgument 13 = .ok (.dup, 1) := by decide +kernel
theorem dX6_checkArgument_14 : decode cX6_checkArgument 14 = .ok (.ldc_w 311, 3) := by decide +kernel
theorem dX6_checkArgument_17 : decode cX6_checkArgument 17 = .ok (.invokespecial 197, 3) := by decide +kernel
theorem dX6_checkArgument_20 : decode cX6_checkArgument 20 = .ok (.athrow, 1) := by decide +kernel
theorem dX6_checkArgument_21 : decode cX6_checkArgument 21 = .ok (.return_, 1) := by decide +kernel
def FX6_checkArgument (T : zT) (p0 : Int32) (p1 : Int32) (p2 : Int32) (h : zH) : Option (Except String Unit × zH) := zJ (fun (u9 : Unit) => some (.error "java/lang/IllegalArgumentException", h)) (fun J1 => if p0 < p1 then (J1 ()) else (if p0 ≤ p2 then (some (.ok (), h)) else (J1 ())))
set_option maxHeartbeats 4000000 in
set_option maxRecDepth 100000 in
theorem BX6_checkArgument {X : zX} (CX : zCX X cX6_checkArgument 3 RX6 "checkArgument" none 6 90) {hi : Nat} {h : zH} {p0 : Int32} {p1 : Int32} {p2 : Int32} {r9 : (Except String Unit × zH)} (hf : FX6_checkArgument (xT X) p0 p1 p2 h = some r9) : zW X 3 (zZX X (zx cvU r9.1, r9.2)) 1 6 false hi h 0 [(0, .int p0), (1, .int p1), (2, .int p2)] [] := by
  have C := CX.1
  unfold FX6_checkArgument at hf
  refine z_join (P := fun J => ∀ (u9 : Unit), J u9 = some r9 → zW X 3 (zZX X (zx cvU r9.1, r9.2)) 1 6 false hi h 10 [] []) hf ?_ ?_
  · intro u9 hf
    exact z_throwW CX ts_X6_311 dX6_checkArgument_10 dX6_checkArgument_13 dX6_checkArgument_14 dX6_checkArgument_17 dX6_checkArgument_20 ⟨Nat.le_of_ble_eq_true rfl, Nat.le_of_ble_eq_true rfl⟩ ⟨by decide, by decide⟩ (by cases hf; rfl)
  · intro J1 kJ1 hf
    refine z_iload_n C dX6_checkArgument_0 0 rfl rfl ?_
    refine z_iload_n C dX6_checkArgument_1 1 rfl rfl ?_
    refine z_icmp_lt (tgt := 10) C dX6_checkArgument_2 (by decide) hf (fun hf => ?_) (fun hf => ?_)
    · refine z_sub [] rfl ?_
      exact kJ1 _ hf
    · refine z_iload_n C dX6_checkArgument_5 0 rfl rfl ?_
      refine z_iload_n C dX6_checkArgument_6 2 rfl rfl ?_
      refine z_icmp_le (tgt := 21) C dX6_checkArgument_7 (by decide) hf (fun hf => ?_) (fun hf => ?_)
      · exact z_vreturnX CX dX6_checkArgument_21 (by cases hf; rfl)
      · refine z_sub [] rfl ?_
        exact kJ1 _ hf
theorem MX6_checkArgument (l : Launch) (hl9 : l.stackTraces = false) (D : va_G) (T : zT) (lo : Nat) (hi : Nat) {h : zH} {p0 : Int32} {p1 : Int32} {p2 : Int32} {x9 : Except String Unit} {h9 : zH} (hf : FX6_checkArgument T p0 p1 p2 h = some (x9, h9)) : zMX l yX6_checkArgument (.code yX6_checkArgument cX6_checkArgument 3 none :: TW) ({ frames := 6, cells := 1, slots := 6, locals := 90 } : Room) D T lo [.int p0, .int p1, .int p2] hi h (zx cvU x9, h9) :=
  z_enterX hl9 (own := RX6) (nm := "checkArgument") (lv := [(0, .int p0), (1, .int p1), (2, .int p2)]) (by decide +kernel) rfl rfl (Nat.le_of_ble_eq_true rfl) rfl (fun _ _ _ _ _ _ _ _ C => BX6_checkArgument C hf)
theorem dX6_append_0 : decode cX6_append 0 = .ok (.iload_n 1, 1) := by decide +kernel
theorem dX6_append_1 : decode cX6_append 1 = .ok (.iconst 0, 1) := by decide +kernel
theorem dX6_append_2 : decode cX6_append 2 = .ok (.sipush 255, 3) := by decide +kernel
theorem dX6_append_5 : decode cX6_append 5 = .ok (.invokestatic 72, 3) := by decide +kernel
theorem dX6_append_8 : decode cX6_append 8 = .ok (.aload_n 0, 1) := by decide +kernel
theorem dX6_append_9 : decode cX6_append 9 = .ok (.getfield 18, 3) := by decide +kernel
theorem dX6_append_12 : decode cX6_append 12 = .ok (.bipush 120, 2) := by decide +kernel
theorem dX6_append_14 : decode cX6_append 14 = .ok (.if_icmp .lt 13, 3) := by decide +kernel
theorem dX6_append_17 : decode cX6_append 17 = .ok (.new 76, 3) := by decide +kernel
theorem dX6_append_20 : decode cX6_append 20 = .ok (.dup, 1) := by decide +kernel
theorem dX6_append_21 : decode cX6_append 21 = .ok (.ldc 78, 2) := by decide +kernel
theorem dX6_append_23 : decode cX6_append 23 = .ok (.invokespecial 80, 3) := by decide +kernel
theorem dX6_append_26 : decode cX6_append 26 = .ok (.athrow, 1) := by decide +kernel
theorem dX6_append_27 : decode cX6_append 27 = .ok (.aload_n 0, 1) := by decide +kernel
theorem dX6_append_28 : decode cX6_append 28 = .ok (.getfield 14, 3) := by decide +kernel
theorem dX6_append_31 : decode cX6_append 31 = .ok (.aload_n 0, 1) := by decide +kernel
theorem dX6_append_32 : decode cX6_append 32 = .ok (.getfield 18, 3) := by decide +kernel
theorem dX6_append_35 : decode cX6_append 35 = .ok (.iload_n 1, 1) := by decide +kernel
theorem dX6_append_36 : decode cX6_append 36 = .ok (.invokevirtual 83, 3) := by decide +kernel
theorem dX6_append_39 : decode cX6_append 39 = .ok (.aload_n 0, 1) := by decide +kernel
theorem dX6_append_40 : decode cX6_append 40 = .ok (.dup, 1) := by decide +kernel
theorem dX6_append_41 : decode cX6_append 41 = .ok (.getfield 18, 3) := by decide +kernel
theorem dX6_append_44 : decode cX6_append 44 = .ok (.iconst 1, 1) := by decide +kernel
theorem dX6_append_45 : decode cX6_append 45 = .ok (.iadd, 1) := by decide +kernel
theorem dX6_append_46 : decode cX6_append 46 = .ok (.putfield 18, 3) := by decide +kernel
theorem dX6_append_49 : decode cX6_append 49 = .ok (.aload_n 0, 1) := by decide +kernel
theorem dX6_append_50 : decode cX6_append 50 = .ok (.getfield 18, 3) := by decide +kernel
theorem dX6_append_53 : decode cX6_append 53 = .ok (.ireturn, 1) := by decide +kernel
def FX6_append (T : zT) (a0 : Nat) (p0 : Int32) (h : zH) : Option (Except String Int32 × zH) := (zo h a0 6).bind fun _ => zbx (FX6_checkArgument T p0 0 255 h) fun x2 h3 => (zgi h3 a0 6 1).bind fun x4 => if x4 < 120 then ((zgr h3 a0 6 0).bind fun x5 => (zgi h3 a0 6 1).bind fun x6 => (FX1_put T x5 x6 p0 h3).bind fun h8 => (zgi h8 a0 6 1).bind fun x9 => (zpv h8 a0 6 1 (.int (x9 + 1))).bind fun h10 => (zgi h10 a0 6 1).bind fun x11 => some (.ok x11, h10)) else (some (.error "java/lang/IllegalStateException", h3))
set_option maxHeartbeats 4000000 in
set_option maxRecDepth 100000 in
theorem BX6_append {X : zX} (CX : zCX X cX6_append 2 RX6 "append" (some .int) 7 112) {hi : Nat} {h : zH} {a0 : Nat} {p0 : Int32} {r9 : (Except String Int32 × zH)} (hf : FX6_append (xT X) a0 p0 h = some r9) : zW X 2 (zZX X (zx cvI r9.1, r9.2)) 2 12 false hi h 0 [(0, .ref a0), (1, .int p0)] [] := by
  have C := CX.1
  unfold FX6_append at hf
  obtain ⟨_, _, hf⟩ := zbind hf
  refine z_iload_n C dX6_append_0 1 rfl rfl ?_
  refine z_iconst C (v := 0) dX6_append_1 (by decide) ?_
  refine z_sipush C (v := 255) dX6_append_2 (by decide) ?_
  refine z_callSX (kc' := 1) (ks' := 6) CX hf (fun _ _ e => MX6_checkArgument (xl X) CX.2.2.2 (xD X) (xT X) (xlo X) hi e) cw_X6_72 ys_X6_checkArgument dX6_append_5 rfl (by decide) ⟨rfl, rfl⟩ (Nat.le_of_ble_eq_true rfl) (st := []) rfl (fun x2 h3 hf => ?_)
  refine z_aload_n C dX6_append_8 0 rfl rfl ?_
  refine z_getI C fl_X6_18 dX6_append_9 hf (fun x4 hf => ?_)
  refine z_bipush C (v := 120) dX6_append_12 (by decide) ?_
  refine z_icmp_lt (tgt := 27) C dX6_append_14 (by decide) hf (fun hf => ?_) (fun hf => ?_)
  · refine z_aload_n C dX6_append_27 0 rfl rfl ?_
    refine z_getR C fl_X6_14 dX6_append_28 hf (fun x5 hf => ?_)
    refine z_aload_n C dX6_append_31 0 rfl rfl ?_
    refine z_getI C fl_X6_18 dX6_append_32 hf (fun x6 hf => ?_)
    refine z_iload_n C dX6_append_35 1 rfl rfl ?_
    obtain ⟨h8, g7, hf⟩ := zbind hf
    refine z_callV (kc' := 1) (ks' := 6) C (MX1_put (xl X) (xD X) (xT X) (xlo X) false hi g7) (OX1_put g7) rfl cw_X6_83 yv_X1_put dX6_append_36 rfl (by decide) ⟨rfl, rfl⟩ (Nat.le_of_ble_eq_true rfl) (st := []) rfl ?_
    refine z_aload_n C dX6_append_39 0 rfl rfl ?_
    refine z_dup C dX6_append_40 rfl ?_
    refine z_getI C fl_X6_18 dX6_append_41 hf (fun x9 hf => ?_)
    refine z_iconst C (v := 1) dX6_append_44 (by decide) ?_
    refine z_iadd C dX6_append_45 ?_
    refine z_put C fl_X6_18 dX6_append_46 rfl rfl hf (fun h10 hf => ?_)
    refine z_aload_n C dX6_append_49 0 rfl rfl ?_
    refine z_getI C fl_X6_18 dX6_append_50 hf (fun x11 hf => ?_)
    exact z_ireturnX CX dX6_append_53 (by cases hf; rfl)
  · exact z_throw CX ts_X6_78 dX6_append_17 dX6_append_20 dX6_append_21 dX6_append_23 dX6_append_26 ⟨Nat.le_of_ble_eq_true rfl, Nat.le_of_ble_eq_true rfl⟩ ⟨by decide, by decide⟩ (by cases hf; rfl)
theorem MX6_append (l : Launch) (hl9 : l.stackTraces = false) (D : va_G) (T : zT) (lo : Nat) (hi : Nat) {h : zH} {a0 : Nat} {p0 : Int32} {x9 : Except String Int32} {h9 : zH} (hf : FX6_append T a0 p0 h = some (x9, h9)) : zMX l yX6_append (.code yX6_append cX6_append 2 (some .int) :: TW) ({ frames := 7, cells := 2, slots := 12, locals := 112 } : Room) D T lo [.ref a0, .int p0] hi h (zx cvI x9, h9) :=
  z_enterX hl9 (own := RX6) (nm := "append") (lv := [(0, .ref a0), (1, .int p0)]) (by decide +kernel) rfl rfl (Nat.le_of_ble_eq_true rfl) rfl (fun _ _ _ _ _ _ _ _ C => BX6_append C hf)
theorem OX6_append {T : zT} {h : zH} {a0 : Nat} {p0 : Int32} {r9 : (Except String Int32 × zH)} (hf : FX6_append T a0 p0 h = some r9) : ∃ fs, h a0 = some (.inr (6, fs)) := by
  obtain ⟨_, h1, _⟩ := zbind hf
  exact zo_obj h1
theorem dX6_load_0 : decode cX6_load 0 = .ok (.aload_n 0, 1) := by decide +kernel
theorem dX6_load_1 : decode cX6_load 1 = .ok (.invokevirtual 87, 3) := by decide +kernel
theorem dX6_load_4 : decode cX6_load 4 = .ok (.bipush (-9), 2) := by decide +kernel
theorem dX6_load_6 : decode cX6_load 6 = .ok (.if_icmp .eq 13, 3) := by decide +kernel
theorem dX6_load_9 : decode cX6_load 9 = .ok (.new 76, 3) := by decide +kernel
theorem dX6_load_12 : decode cX6_load 12 = .ok (.dup, 1) := by decide +kernel
theorem dX6_load_13 : decode cX6_load 13 = .ok (.ldc 91, 2) := by decide +kernel
theorem dX6_load_15 : decode cX6_load 15 = .ok (.invokespecial 80, 3) := by decide +kernel
theorem dX6_load_18 : decode cX6_load 18 = .ok (.athrow, 1) := by decide +kernel
theorem dX6_load_19 : decode cX6_load 19 = .ok (.aload_n 0, 1) := by decide +kernel
theorem dX6_load_20 : decode cX6_load 20 = .ok (.getfield 32, 3) := by decide +kernel
theorem dX6_load_23 : decode cX6_load 23 = .ok (.aload_n 0, 1) := by decide +kernel
theorem dX6_load_24 : decode cX6_load 24 = .ok (.getfield 36, 3) := by decide +kernel
theorem dX6_load_27 : decode cX6_load 27 = .ok (.invokevirtual 93, 3) := by decide +kernel
theorem dX6_load_30 : decode cX6_load 30 = .ok (.aload_n 0, 1) := by decide +kernel
theorem dX6_load_31 : decode cX6_load 31 = .ok (.getfield 45, 3) := by decide +kernel
theorem dX6_load_34 : decode cX6_load 34 = .ok (.invokevirtual 97, 3) := by decide +kernel
theorem dX6_load_37 : decode cX6_load 37 = .ok (.aload_n 0, 1) := by decide +kernel
theorem dX6_load_38 : decode cX6_load 38 = .ok (.getfield 52, 3) := by decide +kernel
theorem dX6_load_41 : decode cX6_load 41 = .ok (.invokevirtual 100, 3) := by decide +kernel
theorem dX6_load_44 : decode cX6_load 44 = .ok (.aload_n 0, 1) := by decide +kernel
theorem dX6_load_45 : decode cX6_load 45 = .ok (.getfield 32, 3) := by decide +kernel
theorem dX6_load_48 : decode cX6_load 48 = .ok (.invokevirtual 103, 3) := by decide +kernel
theorem dX6_load_51 : decode cX6_load 51 = .ok (.ireturn, 1) := by decide +kernel
def FX6_load (T : zT) (a0 : Nat) (h : zH) : Option (Except String Int32 × zH) := (zo h a0 6).bind fun _ => zb2 (FX6_readText T a0 h) fun x2 h3 => if x2 = (-9 : Int32) then ((zgr h3 a0 6 3).bind fun x4 => (zgr h3 a0 6 4).bind fun x5 => (FX3_takeFrom T x4 x5 h3).bind fun h7 => (zgr h7 a0 6 6).bind fun x8 => (FX0_forget T x8 h7).bind fun h10 => (zgr h10 a0 6 7).bind fun x11 => (FX4_clear T x11 h10).bind fun h13 => (zgr h13 a0 6 3).bind fun x14 => (FX3_countMarks T x14 h13).bind fun x16 => some (.ok x16, h13)) else (some (.error "java/lang/IllegalStateException", h3))
set_option maxHeartbeats 4000000 in
set_option maxRecDepth 100000 in
theorem BX6_load {X : zX} (CX : zCX X cX6_load 1 RX6 "load" (some .int) 6 140) {hi : Nat} {h : zH} {a0 : Nat} {r9 : (Except String Int32 × zH)} (hf : FX6_load (xT X) a0 h = some r9) : zW X 1 (zZX X (zx cvI r9.1, r9.2)) 1 6 false hi h 0 [(0, .ref a0)] [] := by
  have C := CX.1
  unfold FX6_load at hf
  obtain ⟨_, _, hf⟩ := zbind hf
  refine z_aload_n C dX6_load_0 0 rfl rfl ?_
  obtain ⟨x2, h3, g1, hf⟩ := zbind2 hf
  refine z_callV (kc' := 1) (ks' := 6) C (MX6_readText (xl X) (xD X) (xT X) (xlo X) false hi g1) (OX6_readText g1) rfl cw_X6_87 yv_X6_readText dX6_load_1 rfl (by decide) ⟨rfl, rfl⟩ (Nat.le_of_ble_eq_true rfl) (st := []) rfl ?_
  refine z_bipush C (v := (-9 : Int32)) dX6_load_4 (by decide) ?_
  refine z_icmp_eq (tgt := 19) C dX6_load_6 (by decide) hf (fun hf => ?_) (fun hf => ?_)
  · refine z_aload_n C dX6_load_19 0 rfl rfl ?_
    refine z_getR C fl_X6_32 dX6_load_20 hf (fun x4 hf => ?_)
    refine z_aload_n C dX6_load_23 0 rfl rfl ?_
    refine z_getR C fl_X6_36 dX6_load_24 hf (fun x5 hf => ?_)
    obtain ⟨h7, g6, hf⟩ := zbind hf
    refine z_callV (kc' := 1) (ks' := 6) C (MX3_takeFrom (xl X) (xD X) (xT X) (xlo X) hi g6) (OX3_takeFrom g6) rfl cw_X6_93 yv_X3_takeFrom dX6_load_27 rfl (by decide) ⟨rfl, rfl⟩ (Nat.le_of_ble_eq_true rfl) (st := []) rfl ?_
    refine z_aload_n C dX6_load_30 0 rfl rfl ?_
    refine z_getR C fl_X6_45 dX6_load_31 hf (fun x8 hf => ?_)
    obtain ⟨h10, g9, hf⟩ := zbind hf
    refine z_callV (kc' := 1) (ks' := 6) C (MX0_forget (xl X) (xD X) (xT X) (xlo X) false hi g9) (OX0_forget g9) rfl cw_X6_97 yv_X0_forget dX6_load_34 rfl (by decide) ⟨rfl, rfl⟩ (Nat.le_of_ble_eq_true rfl) (st := []) rfl ?_
    refine z_aload_n C dX6_load_37 0 rfl rfl ?_
    refine z_getR C fl_X6_52 dX6_load_38 hf (fun x11 hf => ?_)
    obtain ⟨h13, g12, hf⟩ := zbind hf
    refine z_callV (kc' := 1) (ks' := 6) C (MX4_clear (xl X) (xD X) (xT X) (xlo X) false hi g12) (OX4_clear g12) rfl cw_X6_100 yv_X4_clear dX6_load_41 rfl (by decide) ⟨rfl, rfl⟩ (Nat.le_of_ble_eq_true rfl) (st := []) rfl ?_
    refine z_aload_n C dX6_load_44 0 rfl rfl ?_
    refine z_getR C fl_X6_32 dX6_load_45 hf (fun x14 hf => ?_)
    obtain ⟨x16, g15, hf⟩ := zbind hf
    refine z_callV (kc' := 1) (ks' := 6) C (MX3_countMarks (xl X) (xD X) (xT X) (xlo X) false hi g15) (OX3_countMarks g15) rfl cw_X6_103 yv_X3_countMarks dX6_load_48 rfl (by decide) ⟨rfl, rfl⟩ (Nat.le_of_ble_eq_true rfl) (st := []) rfl ?_
    exact z_ireturnX CX dX6_load_51 (by cases hf; rfl)
  · exact z_throw CX ts_X6_91 dX6_load_9 dX6_load_12 dX6_load_13 dX6_load_15 dX6_load_18 ⟨Nat.le_of_ble_eq_true rfl, Nat.le_of_ble_eq_true rfl⟩ ⟨by decide, by decide⟩ (by cases hf; rfl)
theorem MX6_load (l : Launch) (hl9 : l.stackTraces = false) (D : va_G) (T : zT) (lo : Nat) (hi : Nat) {h : zH} {a0 : Nat} {x9 : Except String Int32} {h9 : zH} (hf : FX6_load T a0 h = some (x9, h9)) : zMX l yX6_load (.code yX6_load cX6_load 1 (some .int) :: TW) ({ frames := 6, cells := 1, slots := 6, locals := 140 } : Room) D T lo [.ref a0] hi h (zx cvI x9, h9) :=
  z_enterX hl9 (own := RX6) (nm := "load") (lv := [(0, .ref a0)]) (by decide +kernel) rfl rfl (Nat.le_of_ble_eq_true rfl) rfl (fun _ _ _ _ _ _ _ _ C => BX6_load C hf)
theorem OX6_load {T : zT} {h : zH} {a0 : Nat} {r9 : (Except String Int32 × zH)} (hf : FX6_load T a0 h = some r9) : ∃ fs, h a0 = some (.inr (6, fs)) := by
  obtain ⟨_, h1, _⟩ := zbind hf
  exact zo_obj h1
theorem dX6_about_0 : decode cX6_about 0 = .ok (.iload_n 1, 1) := by decide +kernel
theorem dX6_about_1 : decode cX6_about 1 = .ok (.iconst 0, 1) := by decide +kernel
theorem dX6_about_2 : decode cX6_about 2 = .ok (.bipush 9, 2) := by decide +kernel
theorem dX6_about_4 : decode cX6_about 4 = .ok (.invokestatic 72, 3) := by decide +kernel
theorem dX6_about_7 : decode cX6_about 7 = .ok (.iload_n 1, 1) := by decide +kernel
theorem dX6_about_8 : decode cX6_about 8 = .ok (.tableswitch 112 0 7 #[48, 56, 64, 72, 80, 88, 96, 104], 48) := by decide +kernel
theorem dX6_about_56 : decode cX6_about 56 = .ok (.aload_n 0, 1) := by decide +kernel
theorem dX6_about_57 : decode cX6_about 57 = .ok (.getfield 32, 3) := by decide +kernel
theorem dX6_about_60 : decode cX6_about 60 = .ok (.getfield 106, 3) := by decide +kernel
theorem dX6_about_63 : decode cX6_about 63 = .ok (.ireturn, 1) := by decide +kernel
theorem dX6_about_64 : decode cX6_about 64 = .ok (.aload_n 0, 1) := by decide +kernel
theorem dX6_about_65 : decode cX6_about 65 = .ok (.getfield 32, 3) := by decide +kernel
theorem dX6_about_68 : decode cX6_about 68 = .ok (.getfield 109, 3) := by decide +kernel
theorem dX6_about_71 : decode cX6_about 71 = .ok (.ireturn, 1) := by decide +kernel
theorem dX6_about_72 : decode cX6_about 72 = .ok (.aload_n 0, 1) := by decide +kernel
theorem dX6_about_73 : decode cX6_about 73 = .ok (.getfield 32, 3) := by decide +kernel
theorem dX6_about_76 : decode cX6_about 76 = .ok (.invokevirtual 103, 3) := by decide +kernel
theorem dX6_about_79 : decode cX6_about 79 = .ok (.ireturn, 1) := by decide +kernel
theorem dX6_about_80 : decode cX6_about 80 = .ok (.aload_n 0, 1) := by decide +kernel
theorem dX6_about_81 : decode cX6_about 81 = .ok (.getfield 32, 3) := by decide +kernel
theorem dX6_about_84 : decode cX6_about 84 = .ok (.invokevirtual 112, 3) := by decide +kernel
theorem dX6_about_87 : decode cX6_about 87 = .ok (.ireturn, 1) := by decide +kernel
theorem dX6_about_88 : decode cX6_about 88 = .ok (.aload_n 0, 1) := by decide +kernel
theorem dX6_about_89 : decode cX6_about 89 = .ok (.getfield 32, 3) := by decide +kernel
theorem dX6_about_92 : decode cX6_about 92 = .ok (.invokevirtual 115, 3) := by decide +kernel
theorem dX6_about_95 : decode cX6_about 95 = .ok (.ireturn, 1) := by decide +kernel
theorem dX6_about_96 : decode cX6_about 96 = .ok (.aload_n 0, 1) := by decide +kernel
theorem dX6_about_97 : decode cX6_about 97 = .ok (.getfield 32, 3) := by decide +kernel
theorem dX6_about_100 : decode cX6_about 100 = .ok (.getfield 118, 3) := by decide +kernel
theorem dX6_about_103 : decode cX6_about 103 = .ok (.ireturn, 1) := by decide +kernel
theorem dX6_about_104 : decode cX6_about 104 = .ok (.aload_n 0, 1) := by decide +kernel
theorem dX6_about_105 : decode cX6_about 105 = .ok (.getfield 32, 3) := by decide +kernel
theorem dX6_about_108 : decode cX6_about 108 = .ok (.getfield 121, 3) := by decide +kernel
theorem dX6_about_111 : decode cX6_about 111 = .ok (.ireturn, 1) := by decide +kernel
theorem dX6_about_112 : decode cX6_about 112 = .ok (.aload_n 0, 1) := by decide +kernel
theorem dX6_about_113 : decode cX6_about 113 = .ok (.getfield 32, 3) := by decide +kernel
theorem dX6_about_116 : decode cX6_about 116 = .ok (.invokevirtual 124, 3) := by decide +kernel
theorem dX6_about_119 : decode cX6_about 119 = .ok (.ireturn, 1) := by decide +kernel
theorem dX6_about_120 : decode cX6_about 120 = .ok (.aload_n 0, 1) := by decide +kernel
theorem dX6_about_121 : decode cX6_about 121 = .ok (.iload_n 1, 1) := by decide +kernel
theorem dX6_about_122 : decode cX6_about 122 = .ok (.bipush 8, 2) := by decide +kernel
theorem dX6_about_124 : decode cX6_about 124 = .ok (.isub, 1) := by decide +kernel
theorem dX6_about_125 : decode cX6_about 125 = .ok (.invokevirtual 127, 3) := by decide +kernel
theorem dX6_about_128 : decode cX6_about 128 = .ok (.pop, 1) := by decide +kernel
theorem dX6_about_129 : decode cX6_about 129 = .ok (.aload_n 0, 1) := by decide +kernel
theorem dX6_about_130 : decode cX6_about 130 = .ok (.getfield 59, 3) := by decide +kernel
theorem dX6_about_133 : decode cX6_about 133 = .ok (.getfield 131, 3) := by decide +kernel
theorem dX6_about_136 : decode cX6_about 136 = .ok (.ireturn, 1) := by decide +kernel
def FX6_about (T : zT) (a0 : Nat) (p0 : Int32) (h : zH) : Option (Except String Int32 × zH) := (zo h a0 6).bind fun _ => zbx (FX6_checkArgument T p0 0 9 h) fun x2 h3 => if p0 = 0 then ((zgr h3 a0 6 3).bind fun x4 => (zgi h3 x4 3 0).bind fun x5 => some (.ok x5, h3)) else (if p0 = 1 then ((zgr h3 a0 6 3).bind fun x6 => (zgi h3 x6 3 1).bind fun x7 => some (.ok x7, h3)) else (if p0 = 2 then ((zgr h3 a0 6 3).bind fun x8 => (FX3_countMarks T x8 h3).bind fun x10 => some (.ok x10, h3)) else (if p0 = 3 then ((zgr h3 a0 6 3).bind fun x11 => (FX3_countDoubtful T x11 h3).bind fun x13 => some (.ok x13, h3)) else (if p0 = 4 then ((zgr h3 a0 6 3).bind fun x14 => (FX3_countDecided T x14 h3).bind fun x16 => some (.ok x16, h3)) else (if p0 = 5 then ((zgr h3 a0 6 3).bind fun x17 => (zgi h3 x17 3 2).bind fun x18 => some (.ok x18, h3)) else (if p0 = 6 then ((zgr h3 a0 6 3).bind fun x19 => (zgi h3 x19 3 3).bind fun x20 => some (.ok x20, h3)) else (if p0 = 7 then ((zgr h3 a0 6 3).bind fun x21 => (FX3_countFullCells T x21 h3).bind fun x23 => some (.ok x23, h3)) else (zb2 (FX6_readPresent T a0 (p0 - 8) h3) fun x25 h26 => (zgr h26 a0 6 8).bind fun x27 => (zgi h26 x27 2 1).bind fun x28 => some (.ok x28, h26)))))))))
set_option maxHeartbeats 4000000 in
set_option maxRecDepth 100000 in
theorem BX6_about {X : zX} (CX : zCX X cX6_about 2 RX6 "about" (some .int) 7 148) {hi : Nat} {h : zH} {a0 : Nat} {p0 : Int32} {r9 : (Except String Int32 × zH)} (hf : FX6_about (xT X) a0 p0 h = some r9) : zW X 2 (zZX X (zx cvI r9.1, r9.2)) 1 6 false hi h 0 [(0, .ref a0), (1, .int p0)] [] := by
  have C := CX.1
  unfold FX6_about at hf
  obtain ⟨_, _, hf⟩ := zbind hf
  refine z_iload_n C dX6_about_0 1 rfl rfl ?_
  refine z_iconst C (v := 0) dX6_about_1 (by decide) ?_
  refine z_bipush C (v := 9) dX6_about_2 (by decide) ?_
  refine z_callSX (kc' := 0) (ks' := 0) CX hf (fun _ _ e => MX6_checkArgument (xl X) CX.2.2.2 (xD X) (xT X) (xlo X) hi e) cw_X6_72 ys_X6_checkArgument dX6_about_4 rfl (by decide) ⟨rfl, rfl⟩ (Nat.le_of_ble_eq_true rfl) (st := []) rfl (fun x2 h3 hf => ?_)
  refine z_iload_n C dX6_about_7 1 rfl rfl ?_
  refine z_ite hf (fun c hf => ?_) (fun c0 hf => ?_)
  · refine z_tswIn (k := 0) (off := 48) (tgt := 56) C c dX6_about_8 (by decide) (by decide) ?_
    refine z_aload_n C dX6_about_56 0 rfl rfl ?_
    refine z_getR C fl_X6_32 dX6_about_57 hf (fun x4 hf => ?_)
    refine z_getI C fl_X6_106 dX6_about_60 hf (fun x5 hf => ?_)
    exact z_ireturnX CX dX6_about_63 (by cases hf; rfl)
  · refine z_ite hf (fun c hf => ?_) (fun c1 hf => ?_)
    · refine z_tswIn (k := 1) (off := 56) (tgt := 64) C c dX6_about_8 (by decide) (by decide) ?_
      refine z_aload_n C dX6_about_64 0 rfl rfl ?_
      refine z_getR C fl_X6_32 dX6_about_65 hf (fun x6 hf => ?_)
      refine z_getI C fl_X6_109 dX6_about_68 hf (fun x7 hf => ?_)
      exact z_ireturnX CX dX6_about_71 (by cases hf; rfl)
    · refine z_ite hf (fun c hf => ?_) (fun c2 hf => ?_)
      · refine z_tswIn (k := 2) (off := 64) (tgt := 72) C c dX6_about_8 (by decide) (by decide) ?_
        refine z_aload_n C dX6_about_72 0 rfl rfl ?_
        refine z_getR C fl_X6_32 dX6_about_73 hf (fun x8 hf => ?_)
        obtain ⟨x10, g9, hf⟩ := zbind hf
        refine z_callV (kc' := 0) (ks' := 0) C (MX3_countMarks (xl X) (xD X) (xT X) (xlo X) false hi g9) (OX3_countMarks g9) rfl cw_X6_103 yv_X3_countMarks dX6_about_76 rfl (by decide) ⟨rfl, rfl⟩ (Nat.le_of_ble_eq_true rfl) (st := []) rfl ?_
        exact z_ireturnX CX dX6_about_79 (by cases hf; rfl)
      · refine z_ite hf (fun c hf => ?_) (fun c3 hf => ?_)
        · refine z_tswIn (k := 3) (off := 72) (tgt := 80) C c dX6_about_8 (by decide) (by decide) ?_
          refine z_aload_n C dX6_about_80 0 rfl rfl ?_
          refine z_getR C fl_X6_32 dX6_about_81 hf (fun x11 hf => ?_)
          obtain ⟨x13, g12, hf⟩ := zbind hf
          refine z_callV (kc' := 0) (ks' := 0) C (MX3_countDoubtful (xl X) (xD X) (xT X) (xlo X) false hi g12) (OX3_countDoubtful g12) rfl cw_X6_112 yv_X3_countDoubtful dX6_about_84 rfl (by decide) ⟨rfl, rfl⟩ (Nat.le_of_ble_eq_true rfl) (st := []) rfl ?_
          exact z_ireturnX CX dX6_about_87 (by cases hf; rfl)
        · refine z_ite hf (fun c hf => ?_) (fun c4 hf => ?_)
          · refine z_tswIn (k := 4) (off := 80) (tgt := 88) C c dX6_about_8 (by decide) (by decide) ?_
            refine z_aload_n C dX6_about_88 0 rfl rfl ?_
            refine z_getR C fl_X6_32 dX6_about_89 hf (fun x14 hf => ?_)
            obtain ⟨x16, g15, hf⟩ := zbind hf
            refine z_callV (kc' := 0) (ks' := 0) C (MX3_countDecided (xl X) (xD X) (xT X) (xlo X) false hi g15) (OX3_countDecided g15) rfl cw_X6_115 yv_X3_countDecided dX6_about_92 rfl (by decide) ⟨rfl, rfl⟩ (Nat.le_of_ble_eq_true rfl) (st := []) rfl ?_
            exact z_ireturnX CX dX6_about_95 (by cases hf; rfl)
          · refine z_ite hf (fun c hf => ?_) (fun c5 hf => ?_)
            · refine z_tswIn (k := 5) (off := 88) (tgt := 96) C c dX6_about_8 (by decide) (by decide) ?_
              refine z_aload_n C dX6_about_96 0 rfl rfl ?_
              refine z_getR C fl_X6_32 dX6_about_97 hf (fun x17 hf => ?_)
              refine z_getI C fl_X6_118 dX6_about_100 hf (fun x18 hf => ?_)
              exact z_ireturnX CX dX6_about_103 (by cases hf; rfl)
            · refine z_ite hf (fun c hf => ?_) (fun c6 hf => ?_)
              · refine z_tswIn (k := 6) (off := 96) (tgt := 104) C c dX6_about_8 (by decide) (by decide) ?_
                refine z_aload_n C dX6_about_104 0 rfl rfl ?_
                refine z_getR C fl_X6_32 dX6_about_105 hf (fun x19 hf => ?_)
                refine z_getI C fl_X6_121 dX6_about_108 hf (fun x20 hf => ?_)
                exact z_ireturnX CX dX6_about_111 (by cases hf; rfl)
              · refine z_ite hf (fun c hf => ?_) (fun c7 hf => ?_)
                · refine z_tswIn (k := 7) (off := 104) (tgt := 112) C c dX6_about_8 (by decide) (by decide) ?_
                  refine z_aload_n C dX6_about_112 0 rfl rfl ?_
                  refine z_getR C fl_X6_32 dX6_about_113 hf (fun x21 hf => ?_)
                  obtain ⟨x23, g22, hf⟩ := zbind hf
                  refine z_callV (kc' := 0) (ks' := 0) C (MX3_countFullCells (xl X) (xD X) (xT X) (xlo X) false hi g22) (OX3_countFullCells g22) rfl cw_X6_124 yv_X3_countFullCells dX6_about_116 rfl (by decide) ⟨rfl, rfl⟩ (Nat.le_of_ble_eq_true rfl) (st := []) rfl ?_
                  exact z_ireturnX CX dX6_about_119 (by cases hf; rfl)
                · refine z_tswOut (tgt := 120) C dX6_about_8 (by have e0 := z_ne (i := 0) (by decide) c0; have e1 := z_ne (i := 1) (by decide) c1; have e2 := z_ne (i := 2) (by decide) c2; have e3 := z_ne (i := 3) (by decide) c3; have e4 := z_ne (i := 4) (by decide) c4; have e5 := z_ne (i := 5) (by decide) c5; have e6 := z_ne (i := 6) (by decide) c6; have e7 := z_ne (i := 7) (by decide) c7; omega) (by decide) ?_
                  refine z_aload_n C dX6_about_120 0 rfl rfl ?_
                  refine z_iload_n C dX6_about_121 1 rfl rfl ?_
                  refine z_bipush C (v := 8) dX6_about_122 (by decide) ?_
                  refine z_isub C dX6_about_124 ?_
                  obtain ⟨x25, h26, g24, hf⟩ := zbind2 hf
                  refine z_callV (kc' := 0) (ks' := 0) C (MX6_readPresent (xl X) (xD X) (xT X) (xlo X) false hi g24) (OX6_readPresent g24) rfl cw_X6_127 yv_X6_readPresent dX6_about_125 rfl (by decide) ⟨rfl, rfl⟩ (Nat.le_of_ble_eq_true rfl) (st := []) rfl ?_
                  refine z_pop C dX6_about_128 rfl ?_
                  refine z_aload_n C dX6_about_129 0 rfl rfl ?_
                  refine z_getR C fl_X6_59 dX6_about_130 hf (fun x27 hf => ?_)
                  refine z_getI C fl_X6_131 dX6_about_133 hf (fun x28 hf => ?_)
                  exact z_ireturnX CX dX6_about_136 (by cases hf; rfl)
theorem MX6_about (l : Launch) (hl9 : l.stackTraces = false) (D : va_G) (T : zT) (lo : Nat) (hi : Nat) {h : zH} {a0 : Nat} {p0 : Int32} {x9 : Except String Int32} {h9 : zH} (hf : FX6_about T a0 p0 h = some (x9, h9)) : zMX l yX6_about (.code yX6_about cX6_about 2 (some .int) :: TW) ({ frames := 7, cells := 1, slots := 6, locals := 148 } : Room) D T lo [.ref a0, .int p0] hi h (zx cvI x9, h9) :=
  z_enterX hl9 (own := RX6) (nm := "about") (lv := [(0, .ref a0), (1, .int p0)]) (by decide +kernel) rfl rfl (Nat.le_of_ble_eq_true rfl) rfl (fun _ _ _ _ _ _ _ _ C => BX6_about C hf)
theorem OX6_about {T : zT} {h : zH} {a0 : Nat} {p0 : Int32} {r9 : (Except String Int32 × zH)} (hf : FX6_about T a0 p0 h = some r9) : ∃ fs, h a0 = some (.inr (6, fs)) := by
  obtain ⟨_, h1, _⟩ := zbind hf
  exact zo_obj h1
theorem dX6_checkLetter_0 : decode cX6_checkLetter 0 = .ok (.iload_n 0, 1) := by decide +kernel
theorem dX6_checkLetter_1 : decode cX6_checkLetter 1 = .ok (.invokestatic 313, 3) := by decide +kernel
theorem dX6_checkLetter_4 : decode cX6_checkLetter 4 = .ok (.ifCond .ne 14, 3) := by decide +kernel
theorem dX6_checkLetter_7 : decode cX6_checkLetter 7 = .ok (.new 316, 3) := by decide +kernel
theorem dX6_checkLetter_10 : decode cX6_checkLetter 10 = .ok (.dup, 1) := by decide +kernel
theorem dX6_checkLetter_11 : decode cX6_checkLetter 11 = .ok (.ldc_w 318, 3) := by decide +kernel
theorem dX6_checkLetter_14 : decode cX6_checkLetter 14 = .ok (.invokespecial 320, 3) := by decide +kernel
theorem dX6_checkLetter_17 : decode cX6_checkLetter 17 = .ok (.athrow, 1) := by decide +kernel
theorem dX6_checkLetter_18 : decode cX6_checkLetter 18 = .ok (.return_, 1) := by decide +kernel
def FX6_checkLetter (T : zT) (p0 : Int32) (h : zH) : Option (Except String Unit × zH) := (FX6_isLetter T p0 h).bind fun x2 => if x2 = 0 then (some (.error "java/lang/IndexOutOfBoundsException", h)) else (some (.ok (), h))
set_option maxHeartbeats 4000000 in
set_option maxRecDepth 100000 in
theorem BX6_checkLetter {X : zX} (CX : zCX X cX6_checkLetter 1 RX6 "checkLetter" none 6 90) {hi : Nat} {h : zH} {p0 : Int32} {r9 : (Except String Unit × zH)} (hf : FX6_checkLetter (xT X) p0 h = some r9) : zW X 1 (zZX X (zx cvU r9.1, r9.2)) 1 6 false hi h 0 [(0, .int p0)] [] := by
  have C := CX.1
  unfold FX6_checkLetter at hf
  refine z_iload_n C dX6_checkLetter_0 0 rfl rfl ?_
  obtain ⟨x2, g1, hf⟩ := zbind hf
  refine z_callS (kc' := 1) (ks' := 6) C (MX6_isLetter (xl X) (xD X) (xT X) (xlo X) false hi g1) cw_X6_313 ys_X6_isLetter dX6_checkLetter_1 rfl (by decide) ⟨rfl, rfl⟩ (Nat.le_of_ble_eq_true rfl) (st := []) rfl ?_
  refine z_if_ne (tgt := 18) C dX6_checkLetter_4 (by decide) hf (fun hf => ?_) (fun hf => ?_)
  · exact z_vreturnX CX dX6_checkLetter_18 (by cases hf; rfl)
  · exact z_throwW CX ts_X6_318 dX6_checkLetter_7 dX6_checkLetter_10 dX6_checkLetter_11 dX6_checkLetter_14 dX6_checkLetter_17 ⟨Nat.le_of_ble_eq_true rfl, Nat.le_of_ble_eq_true rfl⟩ ⟨by decide, by decide⟩ (by cases hf; rfl)
theorem MX6_checkLetter (l : Launch) (hl9 : l.stackTraces = false) (D : va_G) (T : zT) (lo : Nat) (hi : Nat) {h : zH} {p0 : Int32} {x9 : Except String Unit} {h9 : zH} (hf : FX6_checkLetter T p0 h = some (x9, h9)) : zMX l yX6_checkLetter (.code yX6_checkLetter cX6_checkLetter 1 none :: TW) ({ frames := 6, cells := 1, slots := 6, locals := 90 } : Room) D T lo [.int p0] hi h (zx cvU x9, h9) :=
  z_enterX hl9 (own := RX6) (nm := "checkLetter") (lv := [(0, .int p0)]) (by decide +kernel) rfl rfl (Nat.le_of_ble_eq_true rfl) rfl (fun _ _ _ _ _ _ _ _ C => BX6_checkLetter C hf)
theorem dX6_letter_0 : decode cX6_letter 0 = .ok (.iload_n 1, 1) := by decide +kernel
theorem dX6_letter_1 : decode cX6_letter 1 = .ok (.invokestatic 134, 3) := by decide +kernel
theorem dX6_letter_4 : decode cX6_letter 4 = .ok (.iload_n 2, 1) := by decide +kernel
theorem dX6_letter_5 : decode cX6_letter 5 = .ok (.iconst 0, 1) := by decide +kernel
theorem dX6_letter_6 : decode cX6_letter 6 = .ok (.iconst 4, 1) := by decide +kernel
theorem dX6_letter_7 : decode cX6_letter 7 = .ok (.invokestatic 72, 3) := by decide +kernel
theorem dX6_letter_10 : decode cX6_letter 10 = .ok (.iload_n 2, 1) := by decide +kernel
theorem dX6_letter_11 : decode cX6_letter 11 = .ok (.tableswitch 71 0 3 #[29, 41, 53, 65], 29) := by decide +kernel
theorem dX6_letter_40 : decode cX6_letter 40 = .ok (.aload_n 0, 1) := by decide +kernel
theorem dX6_letter_41 : decode cX6_letter 41 = .ok (.getfield 32, 3) := by decide +kernel
theorem dX6_letter_44 : decode cX6_letter 44 = .ok (.getfield 137, 3) := by decide +kernel
theorem dX6_letter_47 : decode cX6_letter 47 = .ok (.iload_n 1, 1) := by decide +kernel
theorem dX6_letter_48 : decode cX6_letter 48 = .ok (.invokevirtual 140, 3) := by decide +kernel
theorem dX6_letter_51 : decode cX6_letter 51 = .ok (.ireturn, 1) := by decide +kernel
theorem dX6_letter_52 : decode cX6_letter 52 = .ok (.aload_n 0, 1) := by decide +kernel
theorem dX6_letter_53 : decode cX6_letter 53 = .ok (.getfield 32, 3) := by decide +kernel
theorem dX6_letter_56 : decode cX6_letter 56 = .ok (.getfield 143, 3) := by decide +kernel
theorem dX6_letter_59 : decode cX6_letter 59 = .ok (.iload_n 1, 1) := by decide +kernel
theorem dX6_letter_60 : decode cX6_letter 60 = .ok (.invokevirtual 140, 3) := by decide +kernel
theorem dX6_letter_63 : decode cX6_letter 63 = .ok (.ireturn, 1) := by decide +kernel
theorem dX6_letter_64 : decode cX6_letter 64 = .ok (.aload_n 0, 1) := by decide +kernel
theorem dX6_letter_65 : decode cX6_letter 65 = .ok (.getfield 32, 3) := by decide +kernel
theorem dX6_letter_68 : decode cX6_letter 68 = .ok (.getfield 146, 3) := by decide +kernel
theorem dX6_letter_71 : decode cX6_letter 71 = .ok (.iload_n 1, 1) := by decide +kernel
theorem dX6_letter_72 : decode cX6_letter 72 = .ok (.invokevirtual 140, 3) := by decide +kernel
theorem dX6_letter_75 : decode cX6_letter 75 = .ok (.ireturn, 1) := by decide +kernel
theorem dX6_letter_76 : decode cX6_letter 76 = .ok (.aload_n 0, 1) := by decide +kernel
theorem dX6_letter_77 : decode cX6_letter 77 = .ok (.iload_n 1, 1) := by decide +kernel
theorem dX6_letter_78 : decode cX6_letter 78 = .ok (.invokevirtual 127, 3) := by decide +kernel
theorem dX6_letter_81 : decode cX6_letter 81 = .ok (.ireturn, 1) := by decide +kernel
theorem dX6_letter_82 : decode cX6_letter 82 = .ok (.aload_n 0, 1) := by decide +kernel
theorem dX6_letter_83 : decode cX6_letter 83 = .ok (.iload_n 1, 1) := by decide +kernel
theorem dX6_letter_84 : decode cX6_letter 84 = .ok (.invokevirtual 127, 3) := by decide +kernel
theorem dX6_letter_87 : decode cX6_letter 87 = .ok (.pop, 1) := by decide +kernel
theorem dX6_letter_88 : decode cX6_letter 88 = .ok (.aload_n 0, 1) := by decide +kernel
theorem dX6_letter_89 : decode cX6_letter 89 = .ok (.getfield 59, 3) := by decide +kernel
theorem dX6_letter_92 : decode cX6_letter 92 = .ok (.invokevirtual 149, 3) := by decide +kernel
theorem dX6_letter_95 : decode cX6_letter 95 = .ok (.ireturn, 1) := by decide +kernel
def FX6_letter (T : zT) (a0 : Nat) (p0 : Int32) (p1 : Int32) (h : zH) : Option (Except String Int32 × zH) := (zo h a0 6).bind fun _ => zbx (FX6_checkLetter T p0 h) fun x2 h3 => zbx (FX6_checkArgument T p1 0 4 h3) fun x5 h6 => if p1 = 0 then ((zgr h6 a0 6 3).bind fun x7 => (zgr h6 x7 3 4).bind fun x8 => (FX1_at T x8 p0 h6).bind fun x10 => some (.ok x10, h6)) else (if p1 = 1 then ((zgr h6 a0 6 3).bind fun x11 => (zgr h6 x11 3 5).bind fun x12 => (FX1_at T x12 p0 h6).bind fun x14 => some (.ok x14, h6)) else (if p1 = 2 then ((zgr h6 a0 6 3).bind fun x15 => (zgr h6 x15 3 6).bind fun x16 => (FX1_at T x16 p0 h6).bind fun x18 => some (.ok x18, h6)) else (if p1 = 3 then (zb2 (FX6_readPresent T a0 p0 h6) fun x20 h21 => some (.ok x20, h21)) else (zb2 (FX6_readPresent T a0 p0 h6) fun x23 h24 => (zgr h24 a0 6 8).bind fun x25 => (FX2_longest T x25 h24).bind fun x27 => some (.ok x27, h24)))))
set_option maxHeartbeats 4000000 in
set_option maxRecDepth 100000 in
theorem BX6_letter {X : zX} (CX : zCX X cX6_letter 3 RX6 "letter" (some .int) 7 148) {hi : Nat} {h : zH} {a0 : Nat} {p0 : Int32} {p1 : Int32} {r9 : (Except String Int32 × zH)} (hf : FX6_letter (xT X) a0 p0 p1 h = some r9) : zW X 3 (zZX X (zx cvI r9.1, r9.2)) 2 12 false hi h 0 [(0, .ref a0), (1, .int p0), (2, .int p1)] [] := by
  have C := CX.1
  unfold FX6_letter at hf
  obtain ⟨_, _, hf⟩ := zbind hf
  refine z_iload_n C dX6_letter_0 1 rfl rfl ?_
  refine z_callSX (kc' := 1) (ks' := 6) CX hf (fun _ _ e => MX6_checkLetter (xl X) CX.2.2.2 (xD X) (xT X) (xlo X) hi e) cw_X6_134 ys_X6_checkLetter dX6_letter_1 rfl (by decide) ⟨rfl, rfl⟩ (Nat.le_of_ble_eq_true rfl) (st := []) rfl (fun x2 h3 hf => ?_)
  refine z_iload_n C dX6_letter_4 2 rfl rfl ?_
  refine z_iconst C (v := 0) dX6_letter_5 (by decide) ?_
  refine z_iconst C (v := 4) dX6_letter_6 (by decide) ?_
  refine z_callSX (kc' := 0) (ks' := 0) CX hf (fun _ _ e => MX6_checkArgument (xl X) CX.2.2.2 (xD X) (xT X) (xlo X) hi e) cw_X6_72 ys_X6_checkArgument dX6_letter_7 rfl (by decide) ⟨rfl, rfl⟩ (Nat.le_of_ble_eq_true rfl) (st := []) rfl (fun x5 h6 hf => ?_)
  refine z_iload_n C dX6_letter_10 2 rfl rfl ?_
  refine z_ite hf (fun c hf => ?_) (fun c0 hf => ?_)
  · refine z_tswIn (k := 0) (off := 29) (tgt := 40) C c dX6_letter_11 (by decide) (by decide) ?_
    refine z_aload_n C dX6_letter_40 0 rfl rfl ?_
    refine z_getR C fl_X6_32 dX6_letter_41 hf (fun x7 hf => ?_)
    refine z_getR C fl_X6_137 dX6_letter_44 hf (fun x8 hf => ?_)
    refine z_iload_n C dX6_letter_47 1 rfl rfl ?_
    obtain ⟨x10, g9, hf⟩ := zbind hf
    refine z_callV (kc' := 0) (ks' := 0) C (MX1_at (xl X) (xD X) (xT X) (xlo X) false hi g9) (OX1_at g9) rfl cw_X6_140 yv_X1_at dX6_letter_48 rfl (by decide) ⟨rfl, rfl⟩ (Nat.le_of_ble_eq_true rfl) (st := []) rfl ?_
    exact z_ireturnX CX dX6_letter_51 (by cases hf; rfl)
  · refine z_ite hf (fun c hf => ?_) (fun c1 hf => ?_)
    · refine z_tswIn (k := 1) (off := 41) (tgt := 52) C c dX6_letter_11 (by decide) (by decide) ?_
      refine z_aload_n C dX6_letter_52 0 rfl rfl ?_
      refine z_getR C fl_X6_32 dX6_letter_53 hf (fun x11 hf => ?_)
      refine z_getR C fl_X6_143 dX6_letter_56 hf (fun x12 hf => ?_)
      refine z_iload_n C dX6_letter_59 1 rfl rfl ?_
      obtain ⟨x14, g13, hf⟩ := zbind hf
      refine z_callV (kc' := 0) (ks' := 0) C (MX1_at (xl X) (xD X) (xT X) (xlo X) false hi g13) (OX1_at g13) rfl cw_X6_140 yv_X1_at dX6_letter_60 rfl (by decide) ⟨rfl, rfl⟩ (Nat.le_of_ble_eq_true rfl) (st := []) rfl ?_
      exact z_ireturnX CX dX6_letter_63 (by cases hf; rfl)
    · refine z_ite hf (fun c hf => ?_) (fun c2 hf => ?_)
      · refine z_tswIn (k := 2) (off := 53) (tgt := 64) C c dX6_letter_11 (by decide) (by decide) ?_
        refine z_aload_n C dX6_letter_64 0 rfl rfl ?_
        refine z_getR C fl_X6_32 dX6_letter_65 hf (fun x15 hf => ?_)
        refine z_getR C fl_X6_146 dX6_letter_68 hf (fun x16 hf => ?_)
        refine z_iload_n C dX6_letter_71 1 rfl rfl ?_
        obtain ⟨x18, g17, hf⟩ := zbind hf
        refine z_callV (kc' := 0) (ks' := 0) C (MX1_at (xl X) (xD X) (xT X) (xlo X) false hi g17) (OX1_at g17) rfl cw_X6_140 yv_X1_at dX6_letter_72 rfl (by decide) ⟨rfl, rfl⟩ (Nat.le_of_ble_eq_true rfl) (st := []) rfl ?_
        exact z_ireturnX CX dX6_letter_75 (by cases hf; rfl)
      · refine z_ite hf (fun c hf => ?_) (fun c3 hf => ?_)
        · refine z_tswIn (k := 3) (off := 65) (tgt := 76) C c dX6_letter_11 (by decide) (by decide) ?_
          refine z_aload_n C dX6_letter_76 0 rfl rfl ?_
          refine z_iload_n C dX6_letter_77 1 rfl rfl ?_
          obtain ⟨x20, h21, g19, hf⟩ := zbind2 hf
          refine z_callV (kc' := 0) (ks' := 0) C (MX6_readPresent (xl X) (xD X) (xT X) (xlo X) false hi g19) (OX6_readPresent g19) rfl cw_X6_127 yv_X6_readPresent dX6_letter_78 rfl (by decide) ⟨rfl, rfl⟩ (Nat.le_of_ble_eq_true rfl) (st := []) rfl ?_
          exact z_ireturnX CX dX6_letter_81 (by cases hf; rfl)
        · refine z_tswOut (tgt := 82) C dX6_letter_11 (by have e0 := z_ne (i := 0) (by decide) c0; have e1 := z_ne (i := 1) (by decide) c1; have e2 := z_ne (i := 2) (by decide) c2; have e3 := z_ne (i := 3) (by decide) c3; omega) (by decide) ?_
          refine z_aload_n C dX6_letter_82 0 rfl rfl ?_
          refine z_iload_n C dX6_letter_83 1 rfl rfl ?_
          obtain ⟨x23, h24, g22, hf⟩ := zbind2 hf
          refine z_callV (kc' := 0) (ks' := 0) C (MX6_readPresent (xl X) (xD X) (xT X) (xlo X) false hi g22) (OX6_readPresent g22) rfl cw_X6_127 yv_X6_readPresent dX6_letter_84 rfl (by decide) ⟨rfl, rfl⟩ (Nat.le_of_ble_eq_true rfl) (st := []) rfl ?_
          refine z_pop C dX6_letter_87 rfl ?_
          refine z_aload_n C dX6_letter_88 0 rfl rfl ?_
          refine z_getR C fl_X6_59 dX6_letter_89 hf (fun x25 hf => ?_)
          obtain ⟨x27, g26, hf⟩ := zbind hf
          refine z_callV (kc' := 0) (ks' := 0) C (MX2_longest (xl X) (xD X) (xT X) (xlo X) false hi g26) (OX2_longest g26) rfl cw_X6_149 yv_X2_longest dX6_letter_92 rfl (by decide) ⟨rfl, rfl⟩ (Nat.le_of_ble_eq_true rfl) (st := []) rfl ?_
          exact z_ireturnX CX dX6_letter_95 (by cases hf; rfl)
theorem MX6_letter (l : Launch) (hl9 : l.stackTraces = false) (D : va_G) (T : zT) (lo : Nat) (hi : Nat) {h : zH} {a0 : Nat} {p0 : Int32} {p1 : Int32} {x9 : Except String Int32} {h9 : zH} (hf : FX6_letter T a0 p0 p1 h = some (x9, h9)) : zMX l yX6_letter (.code yX6_letter cX6_letter 3 (some .int) :: TW) ({ frames := 7, cells := 2, slots := 12, locals := 148 } : Room) D T lo [.ref a0, .int p0, .int p1] hi h (zx cvI x9, h9) :=
  z_enterX hl9 (own := RX6) (nm := "letter") (lv := [(0, .ref a0), (1, .int p0), (2, .int p1)]) (by decide +kernel) rfl rfl (Nat.le_of_ble_eq_true rfl) rfl (fun _ _ _ _ _ _ _ _ C => BX6_letter C hf)
theorem OX6_letter {T : zT} {h : zH} {a0 : Nat} {p0 : Int32} {p1 : Int32} {r9 : (Except String Int32 × zH)} (hf : FX6_letter T a0 p0 p1 h = some r9) : ∃ fs, h a0 = some (.inr (6, fs)) := by
  obtain ⟨_, h1, _⟩ := zbind hf
  exact zo_obj h1
theorem dX6_checkCell_0 : decode cX6_checkCell 0 = .ok (.aload_n 0, 1) := by decide +kernel
theorem dX6_checkCell_1 : decode cX6_checkCell 1 = .ok (.getfield 32, 3) := by decide +kernel
theorem dX6_checkCell_4 : decode cX6_checkCell 4 = .ok (.iload_n 1, 1) := by decide +kernel
theorem dX6_checkCell_5 : decode cX6_checkCell 5 = .ok (.iload_n 2, 1) := by decide +kernel
theorem dX6_checkCell_6 : decode cX6_checkCell 6 = .ok (.invokevirtual 323, 3) := by decide +kernel
theorem dX6_checkCell_9 : decode cX6_checkCell 9 = .ok (.ifCond .ne 14, 3) := by decide +kernel
theorem dX6_checkCell_12 : decode cX6_checkCell 12 = .ok (.new 316, 3) := by decide +kernel
theorem dX6_checkCell_15 : decode cX6_checkCell 15 = .ok (.dup, 1) := by decide +kernel
theorem dX6_checkCell_16 : decode cX6_checkCell 16 = .ok (.ldc_w 326, 3) := by decide +kernel
theorem dX6_checkCell_19 : decode cX6_checkCell 19 = .ok (.invokespecial 320, 3) := by decide +kernel
theorem dX6_checkCell_22 : decode cX6_checkCell 22 = .ok (.athrow, 1) := by decide +kernel
theorem dX6_checkCell_23 : decode cX6_checkCell 23 = .ok (.return_, 1) := by decide +kernel
def FX6_checkCell (T : zT) (a0 : Nat) (p0 : Int32) (p1 : Int32) (h : zH) : Option (Except String Unit × zH) := (zo h a0 6).bind fun _ => (zgr h a0 6 3).bind fun x1 => (FX3_hasCell T x1 p0 p1 h).bind fun x3 => if x3 = 0 then (some (.error "java/lang/IndexOutOfBoundsException", h)) else (some (.ok (), h))
set_option maxHeartbeats 4000000 in
set_option maxRecDepth 100000 in
theorem BX6_checkCell {X : zX} (CX : zCX X cX6_checkCell 3 RX6 "checkCell" none 6 90) {hi : Nat} {h : zH} {a0 : Nat} {p0 : Int32} {p1 : Int32} {r9 : (Except String Unit × zH)} (hf : FX6_checkCell (xT X) a0 p0 p1 h = some r9) : zW X 3 (zZX X (zx cvU r9.1, r9.2)) 1 6 false hi h 0 [(0, .ref a0), (1, .int p0), (2, .int p1)] [] := by
  have C := CX.1
  unfold FX6_checkCell at hf
  obtain ⟨_, _, hf⟩ := zbind hf
  refine z_aload_n C dX6_checkCell_0 0 rfl rfl ?_
  refine z_getR C fl_X6_32 dX6_checkCell_1 hf (fun x1 hf => ?_)
  refine z_iload_n C dX6_checkCell_4 1 rfl rfl ?_
  refine z_iload_n C dX6_checkCell_5 2 rfl rfl ?_
  obtain ⟨x3, g2, hf⟩ := zbind hf
  refine z_callV (kc' := 1) (ks' := 6) C (MX3_hasCell (xl X) (xD X) (xT X) (xlo X) false hi g2) (OX3_hasCell g2) rfl cw_X6_323 yv_X3_hasCell dX6_checkCell_6 rfl (by decide) ⟨rfl, rfl⟩ (Nat.le_of_ble_eq_true rfl) (st := []) rfl ?_
  refine z_if_ne (tgt := 23) C dX6_checkCell_9 (by decide) hf (fun hf => ?_) (fun hf => ?_)
  · exact z_vreturnX CX dX6_checkCell_23 (by cases hf; rfl)
  · exact z_throwW CX ts_X6_326 dX6_checkCell_12 dX6_checkCell_15 dX6_checkCell_16 dX6_checkCell_19 dX6_checkCell_22 ⟨Nat.le_of_ble_eq_true rfl, Nat.le_of_ble_eq_true rfl⟩ ⟨by decide, by decide⟩ (by cases hf; rfl)
theorem MX6_checkCell (l : Launch) (hl9 : l.stackTraces = false) (D : va_G) (T : zT) (lo : Nat) (hi : Nat) {h : zH} {a0 : Nat} {p0 : Int32} {p1 : Int32} {x9 : Except String Unit} {h9 : zH} (hf : FX6_checkCell T a0 p0 p1 h = some (x9, h9)) : zMX l yX6_checkCell (.code yX6_checkCell cX6_checkCell 3 none :: TW) ({ frames := 6, cells := 1, slots := 6, locals := 90 } : Room) D T lo [.ref a0, .int p0, .int p1] hi h (zx cvU x9, h9) :=
  z_enterX hl9 (own := RX6) (nm := "checkCell") (lv := [(0, .ref a0), (1, .int p0), (2, .int p1)]) (by decide +kernel) rfl rfl (Nat.le_of_ble_eq_true rfl) rfl (fun _ _ _ _ _ _ _ _ C => BX6_checkCell C hf)
theorem OX6_checkCell {T : zT} {h : zH} {a0 : Nat} {p0 : Int32} {p1 : Int32} {r9 : (Except String Unit × zH)} (hf : FX6_checkCell T a0 p0 p1 h = some r9) : ∃ fs, h a0 = some (.inr (6, fs)) := by
  obtain ⟨_, h1, _⟩ := zbind hf
  exact zo_obj h1
theorem dX6_marks_0 : decode cX6_marks 0 = .ok (.aload_n 0, 1) := by decide +kernel
theorem dX6_marks_1 : decode cX6_marks 1 = .ok (.iload_n 1, 1) := by decide +kernel
theorem dX6_marks_2 : decode cX6_marks 2 = .ok (.iload_n 2, 1) := by decide +kernel
theorem dX6_marks_3 : decode cX6_marks 3 = .ok (.invokevirtual 152, 3) := by decide +kernel
theorem dX6_marks_6 : decode cX6_marks 6 = .ok (.aload_n 0, 1) := by decide +kernel
theorem dX6_marks_7 : decode cX6_marks 7 = .ok (.getfield 32, 3) := by decide +kernel
theorem dX6_marks_10 : decode cX6_marks 10 = .ok (.iload_n 1, 1) := by decide +kernel
theorem dX6_marks_11 : decode cX6_marks 11 = .ok (.iload_n 2, 1) := by decide +kernel
theorem dX6_marks_12 : decode cX6_marks 12 = .ok (.invokevirtual 155, 3) := by decide +kernel
theorem dX6_marks_15 : decode cX6_marks 15 = .ok (.ireturn, 1) := by decide +kernel
def FX6_marks (T : zT) (a0 : Nat) (p0 : Int32) (p1 : Int32) (h : zH) : Option (Except String Int32 × zH) := (zo h a0 6).bind fun _ => zbx (FX6_checkCell T a0 p0 p1 h) fun x2 h3 => (zgr h3 a0 6 3).bind fun x4 => (FX3_marksIn T x4 p0 p1 h3).bind fun x6 => some (.ok x6, h3)
set_option maxHeartbeats 4000000 in
set_option maxRecDepth 100000 in
theorem BX6_marks {X : zX} (CX : zCX X cX6_marks 3 RX6 "marks" (some .int) 7 112) {hi : Nat} {h : zH} {a0 : Nat} {p0 : Int32} {p1 : Int32} {r9 : (Except String Int32 × zH)} (hf : FX6_marks (xT X) a0 p0 p1 h = some r9) : zW X 3 (zZX X (zx cvI r9.1, r9.2)) 1 6 false hi h 0 [(0, .ref a0), (1, .int p0), (2, .int p1)] [] := by
  have C := CX.1
  unfold FX6_marks at hf
  obtain ⟨_, _, hf⟩ := zbind hf
  refine z_aload_n C dX6_marks_0 0 rfl rfl ?_
  refine z_iload_n C dX6_marks_1 1 rfl rfl ?_
  refine z_iload_n C dX6_marks_2 2 rfl rfl ?_
  refine z_callVX (kc' := 0) (ks' := 0) CX hf (fun _ _ e => MX6_checkCell (xl X) CX.2.2.2 (xD X) (xT X) (xlo X) hi e) (fun _ e => OX6_checkCell e) rfl cw_X6_152 yv_X6_checkCell dX6_marks_3 rfl (by decide) ⟨rfl, rfl⟩ (Nat.le_of_ble_eq_true rfl) (st := []) rfl (fun x2 h3 hf => ?_)
  refine z_aload_n C dX6_marks_6 0 rfl rfl ?_
  refine z_getR C fl_X6_32 dX6_marks_7 hf (fun x4 hf => ?_)
  refine z_iload_n C dX6_marks_10 1 rfl rfl ?_
  refine z_iload_n C dX6_marks_11 2 rfl rfl ?_
  obtain ⟨x6, g5, hf⟩ := zbind hf
  refine z_callV (kc' := 0) (ks' := 0) C (MX3_marksIn (xl X) (xD X) (xT X) (xlo X) false hi g5) (OX3_marksIn g5) rfl cw_X6_155 yv_X3_marksIn dX6_marks_12 rfl (by decide) ⟨rfl, rfl⟩ (Nat.le_of_ble_eq_true rfl) (st := []) rfl ?_
  exact z_ireturnX CX dX6_marks_15 (by cases hf; rfl)
theorem MX6_marks (l : Launch) (hl9 : l.stackTraces = false) (D : va_G) (T : zT) (lo : Nat) (hi : Nat) {h : zH} {a0 : Nat} {p0 : Int32} {p1 : Int32} {x9 : Except String Int32} {h9 : zH} (hf : FX6_marks T a0 p0 p1 h = some (x9, h9)) : zMX l yX6_marks (.code yX6_marks cX6_marks 3 (some .int) :: TW) ({ frames := 7, cells := 1, slots := 6, locals := 112 } : Room) D T lo [.ref a0, .int p0, .int p1] hi h (zx cvI x9, h9) :=
  z_enterX hl9 (own := RX6) (nm := "marks") (lv := [(0, .ref a0), (1, .int p0), (2, .int p1)]) (by decide +kernel) rfl rfl (Nat.le_of_ble_eq_true rfl) rfl (fun _ _ _ _ _ _ _ _ C => BX6_marks C hf)
theorem OX6_marks {T : zT} {h : zH} {a0 : Nat} {p0 : Int32} {p1 : Int32} {r9 : (Except String Int32 × zH)} (hf : FX6_marks T a0 p0 p1 h = some r9) : ∃ fs, h a0 = some (.inr (6, fs)) := by
  obtain ⟨_, h1, _⟩ := zbind hf
  exact zo_obj h1
theorem dX6_checkMark_0 : decode cX6_checkMark 0 = .ok (.aload_n 0, 1) := by decide +kernel
theorem dX6_checkMark_1 : decode cX6_checkMark 1 = .ok (.getfield 32, 3) := by decide +kernel
theorem dX6_checkMark_4 : decode cX6_checkMark 4 = .ok (.iload_n 1, 1) := by decide +kernel
theorem dX6_checkMark_5 : decode cX6_checkMark 5 = .ok (.iload_n 2, 1) := by decide +kernel
theorem dX6_checkMark_6 : decode cX6_checkMark 6 = .ok (.iload_n 3, 1) := by decide +kernel
theorem dX6_checkMark_7 : decode cX6_checkMark 7 = .ok (.invokevirtual 328, 3) := by decide +kernel
theorem dX6_checkMark_10 : decode cX6_checkMark 10 = .ok (.ifCond .ne 14, 3) := by decide +kernel
theorem dX6_checkMark_13 : decode cX6_checkMark 13 = .ok (.new 316, 3) := by decide +kernel
theorem dX6_checkMark_16 : decode cX6_checkMark 16 = .ok (.dup, 1) := by decide +kernel
theorem dX6_checkMark_17 : decode cX6_checkMark 17 = .ok (.ldc_w 332, 3) := by decide +kernel
theorem dX6_checkMark_20 : decode cX6_checkMark 20 = .ok (.invokespecial 320, 3) := by decide +kernel
theorem dX6_checkMark_23 : decode cX6_checkMark 23 = .ok (.athrow, 1) := by decide +kernel
theorem dX6_checkMark_24 : decode cX6_checkMark 24 = .ok (.return_, 1) := by decide +kernel
def FX6_checkMark (T : zT) (a0 : Nat) (p0 : Int32) (p1 : Int32) (p2 : Int32) (h : zH) : Option (Except String Unit × zH) := (zo h a0 6).bind fun _ => (zgr h a0 6 3).bind fun x1 => (FX3_hasMark T x1 p0 p1 p2 h).bind fun x3 => if x3 = 0 then (some (.error "java/lang/IndexOutOfBoundsException", h)) else (some (.ok (), h))
set_option maxHeartbeats 4000000 in
set_option maxRecDepth 100000 in
theorem BX6_checkMark {X : zX} (CX : zCX X cX6_checkMark 4 RX6 "checkMark" none 6 90) {hi : Nat} {h : zH} {a0 : Nat} {p0 : Int32} {p1 : Int32} {p2 : Int32} {r9 : (Except String Unit × zH)} (hf : FX6_checkMark (xT X) a0 p0 p1 p2 h = some r9) : zW X 4 (zZX X (zx cvU r9.1, r9.2)) 1 6 false hi h 0 [(0, .ref a0), (1, .int p0), (2, .int p1), (3, .int p2)] [] := by
  have C := CX.1
  unfold FX6_checkMark at hf
  obtain ⟨_, _, hf⟩ := zbind hf
  refine z_aload_n C dX6_checkMark_0 0 rfl rfl ?_
  refine z_getR C fl_X6_32 dX6_checkMark_1 hf (fun x1 hf => ?_)
  refine z_iload_n C dX6_checkMark_4 1 rfl rfl ?_
  refine z_iload_n C dX6_checkMark_5 2 rfl rfl ?_
  refine z_iload_n C dX6_checkMark_6 3 rfl rfl ?_
  obtain ⟨x3, g2, hf⟩ := zbind hf
  refine z_callV (kc' := 1) (ks' := 6) C (MX3_hasMark (xl X) (xD X) (xT X) (xlo X) false hi g2) (OX3_hasMark g2) rfl cw_X6_328 yv_X3_hasMark dX6_checkMark_7 rfl (by decide) ⟨rfl, rfl⟩ (Nat.le_of_ble_eq_true rfl) (st := []) rfl ?_
  refine z_if_ne (tgt := 24) C dX6_checkMark_10 (by decide) hf (fun hf => ?_) (fun hf => ?_)
  · exact z_vreturnX CX dX6_checkMark_24 (by cases hf; rfl)
  · exact z_throwW CX ts_X6_332 dX6_checkMark_13 dX6_checkMark_16 dX6_checkMark_17 dX6_checkMark_20 dX6_checkMark_23 ⟨Nat.le_of_ble_eq_true rfl, Nat.le_of_ble_eq_true rfl⟩ ⟨by decide, by decide⟩ (by cases hf; rfl)
theorem MX6_checkMark (l : Launch) (hl9 : l.stackTraces = false) (D : va_G) (T : zT) (lo : Nat) (hi : Nat) {h : zH} {a0 : Nat} {p0 : Int32} {p1 : Int32} {p2 : Int32} {x9 : Except String Unit} {h9 : zH} (hf : FX6_checkMark T a0 p0 p1 p2 h = some (x9, h9)) : zMX l yX6_checkMark (.code yX6_checkMark cX6_checkMark 4 none :: TW) ({ frames := 6, cells := 1, slots := 6, locals := 90 } : Room) D T lo [.ref a0, .int p0, .int p1, .int p2] hi h (zx cvU x9, h9) :=
  z_enterX hl9 (own := RX6) (nm := "checkMark") (lv := [(0, .ref a0), (1, .int p0), (2, .int p1), (3, .int p2)]) (by decide +kernel) rfl rfl (Nat.le_of_ble_eq_true rfl) rfl (fun _ _ _ _ _ _ _ _ C => BX6_checkMark C hf)
theorem OX6_checkMark {T : zT} {h : zH} {a0 : Nat} {p0 : Int32} {p1 : Int32} {p2 : Int32} {r9 : (Except String Unit × zH)} (hf : FX6_checkMark T a0 p0 p1 p2 h = some r9) : ∃ fs, h a0 = some (.inr (6, fs)) := by
  obtain ⟨_, h1, _⟩ := zbind hf
  exact zo_obj h1
theorem dX6_mark_0 : decode cX6_mark 0 = .ok (.aload_n 0, 1) := by decide +kernel
theorem dX6_mark_1 : decode cX6_mark 1 = .ok (.iload_n 1, 1) := by decide +kernel
theorem dX6_mark_2 : decode cX6_mark 2 = .ok (.iload_n 2, 1) := by decide +kernel
theorem dX6_mark_3 : decode cX6_mark 3 = .ok (.iload_n 3, 1) := by decide +kernel
theorem dX6_mark_4 : decode cX6_mark 4 = .ok (.invokevirtual 159, 3) := by decide +kernel
theorem dX6_mark_7 : decode cX6_mark 7 = .ok (.iload 4, 2) := by decide +kernel
theorem dX6_mark_9 : decode cX6_mark 9 = .ok (.iconst 0, 1) := by decide +kernel
theorem dX6_mark_10 : decode cX6_mark 10 = .ok (.bipush 7, 2) := by decide +kernel
theorem dX6_mark_12 : decode cX6_mark 12 = .ok (.invokestatic 72, 3) := by decide +kernel
theorem dX6_mark_15 : decode cX6_mark 15 = .ok (.iload_n 1, 1) := by decide +kernel
theorem dX6_mark_16 : decode cX6_mark 16 = .ok (.iload_n 2, 1) := by decide +kernel
theorem dX6_mark_17 : decode cX6_mark 17 = .ok (.iload_n 3, 1) := by decide +kernel
theorem dX6_mark_18 : decode cX6_mark 18 = .ok (.invokestatic 162, 3) := by decide +kernel
theorem dX6_mark_21 : decode cX6_mark 21 = .ok (.istore 5, 2) := by decide +kernel
theorem dX6_mark_23 : decode cX6_mark 23 = .ok (.iload 4, 2) := by decide +kernel
theorem dX6_mark_25 : decode cX6_mark 25 = .ok (.tableswitch 128 0 6 #[43, 56, 69, 82, 95, 106, 117], 43) := by decide +kernel
theorem dX6_mark_68 : decode cX6_mark 68 = .ok (.aload_n 0, 1) := by decide +kernel
theorem dX6_mark_69 : decode cX6_mark 69 = .ok (.getfield 32, 3) := by decide +kernel
theorem dX6_mark_72 : decode cX6_mark 72 = .ok (.getfield 166, 3) := by decide +kernel
theorem dX6_mark_75 : decode cX6_mark 75 = .ok (.iload 5, 2) := by decide +kernel
theorem dX6_mark_77 : decode cX6_mark 77 = .ok (.invokevirtual 140, 3) := by decide +kernel
theorem dX6_mark_80 : decode cX6_mark 80 = .ok (.ireturn, 1) := by decide +kernel
theorem dX6_mark_81 : decode cX6_mark 81 = .ok (.aload_n 0, 1) := by decide +kernel
theorem dX6_mark_82 : decode cX6_mark 82 = .ok (.getfield 32, 3) := by decide +kernel
theorem dX6_mark_85 : decode cX6_mark 85 = .ok (.getfield 169, 3) := by decide +kernel
theorem dX6_mark_88 : decode cX6_mark 88 = .ok (.iload 5, 2) := by decide +kernel
theorem dX6_mark_90 : decode cX6_mark 90 = .ok (.invokevirtual 140, 3) := by decide +kernel
theorem dX6_mark_93 : decode cX6_mark 93 = .ok (.ireturn, 1) := by decide +kernel
theorem dX6_mark_94 : decode cX6_mark 94 = .ok (.aload_n 0, 1) := by decide +kernel
theorem dX6_mark_95 : decode cX6_mark 95 = .ok (.getfield 32, 3) := by decide +kernel
theorem dX6_mark_98 : decode cX6_mark 98 = .ok (.getfield 172, 3) := by decide +kernel
theorem dX6_mark_101 : decode cX6_mark 101 = .ok (.iload 5, 2) := by decide +kernel
theorem dX6_mark_103 : decode cX6_mark 103 = .ok (.invokevirtual 140, 3) := by decide +kernel
theorem dX6_mark_106 : decode cX6_mark 106 = .ok (.ireturn, 1) := by decide +kernel
theorem dX6_mark_107 : decode cX6_mark 107 = .ok (.aload_n 0, 1) := by decide +kernel
theorem dX6_mark_108 : decode cX6_mark 108 = .ok (.getfield 32, 3) := by decide +kernel
theorem dX6_mark_111 : decode cX6_mark 111 = .ok (.getfield 175, 3) := by decide +kernel
theorem dX6_mark_114 : decode cX6_mark 114 = .ok (.iload 5, 2) := by decide +kernel
theorem dX6_mark_116 : decode cX6_mark 116 = .ok (.invokevirtual 140, 3) := by decide +kernel
theorem dX6_mark_119 : decode cX6_mark 119 = .ok (.ireturn, 1) := by decide +kernel
theorem dX6_mark_120 : decode cX6_mark 120 = .ok (.aload_n 0, 1) := by decide +kernel
theorem dX6_mark_121 : decode cX6_mark 121 = .ok (.getfield 32, 3) := by decide +kernel
theorem dX6_mark_124 : decode cX6_mark 124 = .ok (.iload_n 1, 1) := by decide +kernel
theorem dX6_mark_125 : decode cX6_mark 125 = .ok (.iload_n 2, 1) := by decide +kernel
theorem dX6_mark_126 : decode cX6_mark 126 = .ok (.iload_n 3, 1) := by decide +kernel
theorem dX6_mark_127 : decode cX6_mark 127 = .ok (.invokevirtual 178, 3) := by decide +kernel
theorem dX6_mark_130 : decode cX6_mark 130 = .ok (.ireturn, 1) := by decide +kernel
theorem dX6_mark_131 : decode cX6_mark 131 = .ok (.aload_n 0, 1) := by decide +kernel
theorem dX6_mark_132 : decode cX6_mark 132 = .ok (.getfield 32, 3) := by decide +kernel
theorem dX6_mark_135 : decode cX6_mark 135 = .ok (.iload_n 1, 1) := by decide +kernel
theorem dX6_mark_136 : decode cX6_mark 136 = .ok (.iload_n 2, 1) := by decide +kernel
theorem dX6_mark_137 : decode cX6_mark 137 = .ok (.iload_n 3, 1) := by decide +kernel
theorem dX6_mark_138 : decode cX6_mark 138 = .ok (.invokevirtual 181, 3) := by decide +kernel
theorem dX6_mark_141 : decode cX6_mark 141 = .ok (.ireturn, 1) := by decide +kernel
theorem dX6_mark_142 : decode cX6_mark 142 = .ok (.aload_n 0, 1) := by decide +kernel
theorem dX6_mark_143 : decode cX6_mark 143 = .ok (.getfield 32, 3) := by decide +kernel
theorem dX6_mark_146 : decode cX6_mark 146 = .ok (.iload 5, 2) := by decide +kernel
theorem dX6_mark_148 : decode cX6_mark 148 = .ok (.iconst 0, 1) := by decide +kernel
theorem dX6_mark_149 : decode cX6_mark 149 = .ok (.invokevirtual 184, 3) := by decide +kernel
theorem dX6_mark_152 : decode cX6_mark 152 = .ok (.ireturn, 1) := by decide +kernel
theorem dX6_mark_153 : decode cX6_mark 153 = .ok (.aload_n 0, 1) := by decide +kernel
theorem dX6_mark_154 : decode cX6_mark 154 = .ok (.getfield 32, 3) := by decide +kernel
theorem dX6_mark_157 : decode cX6_mark 157 = .ok (.iload 5, 2) := by decide +kernel
theorem dX6_mark_159 : decode cX6_mark 159 = .ok (.iconst 1, 1) := by decide +kernel
theorem dX6_mark_160 : decode cX6_mark 160 = .ok (.invokevirtual 184, 3) := by decide +kernel
theorem dX6_mark_163 : decode cX6_mark 163 = .ok (.ireturn, 1) := by decide +kernel
def FX6_mark (T : zT) (a0 : Nat) (p0 : Int32) (p1 : Int32) (p2 : Int32) (p3 : Int32) (h : zH) : Option (Except String Int32 × zH) := (zo h a0 6).bind fun _ => zbx (FX6_checkMark T a0 p0 p1 p2 h) fun x2 h3 => zbx (FX6_checkArgument T p3 0 7 h3) fun x5 h6 => (FX6_placeOf T p0 p1 p2 h6).bind fun x8 => if p3 = 0 then ((zgr h6 a0 6 3).bind fun x9 => (zgr h6 x9 3 8).bind fun x10 => (FX1_at T x10 x8 h6).bind fun x12 => some (.ok x12, h6)) else (if p3 = 1 then ((zgr h6 a0 6 3).bind fun x13 => (zgr h6 x13 3 9).bind fun x14 => (FX1_at T x14 x8 h6).bind fun x16 => some (.ok x16, h6)) else (if p3 = 2 then ((zgr h6 a0 6 3).bind fun x17 => (zgr h6 x17 3 10).bind fun x18 => (FX1_at T x18 x8 h6).bind fun x20 => some (.ok x20, h6)) else (if p3 = 3 then ((zgr h6 a0 6 3).bind fun x21 => (zgr h6 x21 3 11).bind fun x22 => (FX1_at T x22 x8 h6).bind fun x24 => some (.ok x24, h6)) else (if p3 = 4 then ((zgr h6 a0 6 3).bind fun x25 => (FX3_ownerOf T x25 p0 p1 p2 h6).bind fun x27 => some (.ok x27, h6)) else (if p3 = 5 then ((zgr h6 a0 6 3).bind fun x28 => (FX3_ruleOf T x28 p0 p1 p2 h6).bind fun x30 => some (.ok x30, h6)) else (if p3 = 6 then ((zgr h6 a0 6 3).bind fun x31 => (FX3_distance T x31 x8 0 h6).bind fun x33 => some (.ok x33, h6)) else ((zgr h6 a0 6 3).bind fun x34 => (FX3_distance T x34 x8 1 h6).bind fun x36 => some (.ok x36, h6))))))))
set_option maxHeartbeats 4000000 in
set_option maxRecDepth 100000 in
theorem BX6_mark {X : zX} (CX : zCX X cX6_mark 6 RX6 "mark" (some .int) 7 119) {hi : Nat} {h : zH} {a0 : Nat} {p0 : Int32} {p1 : Int32} {p2 : Int32} {p3 : Int32} {r9 : (Except String Int32 × zH)} (hf : FX6_mark (xT X) a0 p0 p1 p2 p3 h = some r9) : zW X 6 (zZX X (zx cvI r9.1, r9.2)) 2 12 false hi h 0 [(0, .ref a0), (1, .int p0), (2, .int p1), (3, .int p2), (4, .int p3)] [] := by
  have C := CX.1
  unfold FX6_mark at hf
  obtain ⟨_, _, hf⟩ := zbind hf
  refine z_aload_n C dX6_mark_0 0 rfl rfl ?_
  refine z_iload_n C dX6_mark_1 1 rfl rfl ?_
  refine z_iload_n C dX6_mark_2 2 rfl rfl ?_
  refine z_iload_n C dX6_mark_3 3 rfl rfl ?_
  refine z_callVX (kc' := 1) (ks' := 6) CX hf (fun _ _ e => MX6_checkMark (xl X) CX.2.2.2 (xD X) (xT X) (xlo X) hi e) (fun _ e => OX6_checkMark e) rfl cw_X6_159 yv_X6_checkMark dX6_mark_4 rfl (by decide) ⟨rfl, rfl⟩ (Nat.le_of_ble_eq_true rfl) (st := []) rfl (fun x2 h3 hf => ?_)
  refine z_iload C dX6_mark_7 4 rfl ?_
  refine z_iconst C (v := 0) dX6_mark_9 (by decide) ?_
  refine z_bipush C (v := 7) dX6_mark_10 (by decide) ?_
  refine z_callSX (kc' := 0) (ks' := 0) CX hf (fun _ _ e => MX6_checkArgument (xl X) CX.2.2.2 (xD X) (xT X) (xlo X) hi e) cw_X6_72 ys_X6_checkArgument dX6_mark_12 rfl (by decide) ⟨rfl, rfl⟩ (Nat.le_of_ble_eq_true rfl) (st := []) rfl (fun x5 h6 hf => ?_)
  refine z_iload_n C dX6_mark_15 1 rfl rfl ?_
  refine z_iload_n C dX6_mark_16 2 rfl rfl ?_
  refine z_iload_n C dX6_mark_17 3 rfl rfl ?_
  obtain ⟨x8, g7, hf⟩ := zbind hf
  refine z_callS (kc' := 0) (ks' := 0) C (MX6_placeOf (xl X) (xD X) (xT X) (xlo X) false hi g7) cw_X6_162 ys_X6_placeOf dX6_mark_18 rfl (by decide) ⟨rfl, rfl⟩ (Nat.le_of_ble_eq_true rfl) (st := []) rfl ?_
  refine z_istore C dX6_mark_21 (by decide) (lv' := [(5, .int x8), (0, .ref a0), (1, .int p0), (2, .int p1), (3, .int p2), (4, .int p3)]) rfl ?_
  refine z_iload C dX6_mark_23 5 rfl ?_
  refine z_ite hf (fun c hf => ?_) (fun c0 hf => ?_)
  · refine z_tswIn (k := 0) (off := 43) (tgt := 68) C c dX6_mark_25 (by decide) (by decide) ?_
    refine z_aload_n C dX6_mark_68 1 rfl rfl ?_
    refine z_getR C fl_X6_32 dX6_mark_69 hf (fun x9 hf => ?_)
    refine z_getR C fl_X6_166 dX6_mark_72 hf (fun x10 hf => ?_)
    refine z_iload C dX6_mark_75 0 rfl ?_
    obtain ⟨x12, g11, hf⟩ := zbind hf
    refine z_callV (kc' := 0) (ks' := 0) C (MX1_at (xl X) (xD X) (xT X) (xlo X) false hi g11) (OX1_at g11) rfl cw_X6_140 yv_X1_at dX6_mark_77 rfl (by decide) ⟨rfl, rfl⟩ (Nat.le_of_ble_eq_true rfl) (st := []) rfl ?_
    exact z_ireturnX CX dX6_mark_80 (by cases hf; rfl)
  · refine z_ite hf (fun c hf => ?_) (fun c1 hf => ?_)
    · refine z_tswIn (k := 1) (off := 56) (tgt := 81) C c dX6_mark_25 (by decide) (by decide) ?_
      refine z_aload_n C dX6_mark_81 1 rfl rfl ?_
      refine z_getR C fl_X6_32 dX6_mark_82 hf (fun x13 hf => ?_)
      refine z_getR C fl_X6_169 dX6_mark_85 hf (fun x14 hf => ?_)
      refine z_iload C dX6_mark_88 0 rfl ?_
      obtain ⟨x16, g15, hf⟩ := zbind hf
      refine z_callV (kc' := 0) (ks' := 0) C (MX1_at (xl X) (xD X) (xT X) (xlo X) false hi g15) (OX1_at g15) rfl cw_X6_140 yv_X1_at dX6_mark_90 rfl (by decide) ⟨rfl, rfl⟩ (Nat.le_of_ble_eq_true rfl) (st := []) rfl ?_
      exact z_ireturnX CX dX6_mark_93 (by cases hf; rfl)
    · refine z_ite hf (fun c hf => ?_) (fun c2 hf => ?_)
      · refine z_tswIn (k := 2) (off := 69) (tgt := 94) C c dX6_mark_25 (by decide) (by decide) ?_
        refine z_aload_n C dX6_mark_94 1 rfl rfl ?_
        refine z_getR C fl_X6_32 dX6_mark_95 hf (fun x17 hf => ?_)
        refine z_getR C fl_X6_172 dX6_mark_98 hf (fun x18 hf => ?_)
        refine z_iload C dX6_mark_101 0 rfl ?_
        obtain ⟨x20, g19, hf⟩ := zbind hf
        refine z_callV (kc' := 0) (ks' := 0) C (MX1_at (xl X) (xD X) (xT X) (xlo X) false hi g19) (OX1_at g19) rfl cw_X6_140 yv_X1_at dX6_mark_103 rfl (by decide) ⟨rfl, rfl⟩ (Nat.le_of_ble_eq_true rfl) (st := []) rfl ?_
        exact z_ireturnX CX dX6_mark_106 (by cases hf; rfl)
      · refine z_ite hf (fun c hf => ?_) (fun c3 hf => ?_)
        · refine z_tswIn (k := 3) (off := 82) (tgt := 107) C c dX6_mark_25 (by decide) (by decide) ?_
          refine z_aload_n C dX6_mark_107 1 rfl rfl ?_
          refine z_getR C fl_X6_32 dX6_mark_108 hf (fun x21 hf => ?_)
          refine z_getR C fl_X6_175 dX6_mark_111 hf (fun x22 hf => ?_)
          refine z_iload C dX6_mark_114 0 rfl ?_
          obtain ⟨x24, g23, hf⟩ := zbind hf
          refine z_callV (kc' := 0) (ks' := 0) C (MX1_at (xl X) (xD X) (xT X) (xlo X) false hi g23) (OX1_at g23) rfl cw_X6_140 yv_X1_at dX6_mark_116 rfl (by decide) ⟨rfl, rfl⟩ (Nat.le_of_ble_eq_true rfl) (st := []) rfl ?_
          exact z_ireturnX CX dX6_mark_119 (by cases hf; rfl)
        · refine z_ite hf (fun c hf => ?_) (fun c4 hf => ?_)
          · refine z_tswIn (k := 4) (off := 95) (tgt := 120) C c dX6_mark_25 (by decide) (by decide) ?_
            refine z_aload_n C dX6_mark_120 1 rfl rfl ?_
            refine z_getR C fl_X6_32 dX6_mark_121 hf (fun x25 hf => ?_)
            refine z_iload_n C dX6_mark_124 2 rfl rfl ?_
            refine z_iload_n C dX6_mark_125 3 rfl rfl ?_
            refine z_iload_n C dX6_mark_126 4 rfl rfl ?_
            obtain ⟨x27, g26, hf⟩ := zbind hf
            refine z_callV (kc' := 0) (ks' := 0) C (MX3_ownerOf (xl X) (xD X) (xT X) (xlo X) false hi g26) (OX3_ownerOf g26) rfl cw_X6_178 yv_X3_ownerOf dX6_mark_127 rfl (by decide) ⟨rfl, rfl⟩ (Nat.le_of_ble_eq_true rfl) (st := []) rfl ?_
            exact z_ireturnX CX dX6_mark_130 (by cases hf; rfl)
          · refine z_ite hf (fun c hf => ?_) (fun c5 hf => ?_)
            · refine z_tswIn (k := 5) (off := 106) (tgt := 131) C c dX6_mark_25 (by decide) (by decide) ?_
              refine z_aload_n C dX6_mark_131 1 rfl rfl ?_
              refine z_getR C fl_X6_32 dX6_mark_132 hf (fun x28 hf => ?_)
              refine z_iload_n C dX6_mark_135 2 rfl rfl ?_
              refine z_iload_n C dX6_mark_136 3 rfl rfl ?_
              refine z_iload_n C dX6_mark_137 4 rfl rfl ?_
              obtain ⟨x30, g29, hf⟩ := zbind hf
              refine z_callV (kc' := 0) (ks' := 0) C (MX3_ruleOf (xl X) (xD X) (xT X) (xlo X) false hi g29) (OX3_ruleOf g29) rfl cw_X6_181 yv_X3_ruleOf dX6_mark_138 rfl (by decide) ⟨rfl, rfl⟩ (Nat.le_of_ble_eq_true rfl) (st := []) rfl ?_
              exact z_ireturnX CX dX6_mark_141 (by cases hf; rfl)
            · refine z_ite hf (fun c hf => ?_) (fun c6 hf => ?_)
              · refine z_tswIn (k := 6) (off := 117) (tgt := 142) C c dX6_mark_25 (by decide) (by decide) ?_
                refine z_aload_n C dX6_mark_142 1 rfl rfl ?_
                refine z_getR C fl_X6_32 dX6_mark_143 hf (fun x31 hf => ?_)
                refine z_iload C dX6_mark_146 0 rfl ?_
                refine z_iconst C (v := 0) dX6_mark_148 (by decide) ?_
                obtain ⟨x33, g32, hf⟩ := zbind hf
                refine z_callV (kc' := 0) (ks' := 0) C (MX3_distance (xl X) (xD X) (xT X) (xlo X) false hi g32) (OX3_distance g32) rfl cw_X6_184 yv_X3_distance dX6_mark_149 rfl (by decide) ⟨rfl, rfl⟩ (Nat.le_of_ble_eq_true rfl) (st := []) rfl ?_
                exact z_ireturnX CX dX6_mark_152 (by cases hf; rfl)
              · refine z_tswOut (tgt := 153) C dX6_mark_25 (by have e0 := z_ne (i := 0) (by decide) c0; have e1 := z_ne (i := 1) (by decide) c1; have e2 := z_ne (i := 2) (by decide) c2; have e3 := z_ne (i := 3) (by decide) c3; have e4 := z_ne (i := 4) (by decide) c4; have e5 := z_ne (i := 5) (by decide) c5; have e6 := z_ne (i := 6) (by decide) c6; omega) (by decide) ?_
                refine z_aload_n C dX6_mark_153 1 rfl rfl ?_
                refine z_getR C fl_X6_32 dX6_mark_154 hf (fun x34 hf => ?_)
                refine z_iload C dX6_mark_157 0 rfl ?_
                refine z_iconst C (v := 1) dX6_mark_159 (by decide) ?_
                obtain ⟨x36, g35, hf⟩ := zbind hf
                refine z_callV (kc' := 0) (ks' := 0) C (MX3_distance (xl X) (xD X) (xT X) (xlo X) false hi g35) (OX3_distance g35) rfl cw_X6_184 yv_X3_distance dX6_mark_160 rfl (by decide) ⟨rfl, rfl⟩ (Nat.le_of_ble_eq_true rfl) (st := []) rfl ?_
                exact z_ireturnX CX dX6_mark_163 (by cases hf; rfl)
theorem MX6_mark (l : Launch) (hl9 : l.stackTraces = false) (D : va_G) (T : zT) (lo : Nat) (hi : Nat) {h : zH} {a0 : Nat} {p0 : Int32} {p1 : Int32} {p2 : Int32} {p3 : Int32} {x9 : Except String Int32} {h9 : zH} (hf : FX6_mark T a0 p0 p1 p2 p3 h = some (x9, h9)) : zMX l yX6_mark (.code yX6_mark cX6_mark 6 (some .int) :: TW) ({ frames := 7, cells := 2, slots := 12, locals := 119 } : Room) D T lo [.ref a0, .int p0, .int p1, .int p2, .int p3] hi h (zx cvI x9, h9) :=
  z_enterX hl9 (own := RX6) (nm := "mark") (lv := [(0, .ref a0), (1, .int p0), (2, .int p1), (3, .int p2), (4, .int p3)]) (by decide +kernel) rfl rfl (Nat.le_of_ble_eq_true rfl) rfl (fun _ _ _ _ _ _ _ _ C => BX6_mark C hf)
theorem OX6_mark {T : zT} {h : zH} {a0 : Nat} {p0 : Int32} {p1 : Int32} {p2 : Int32} {p3 : Int32} {r9 : (Except String Int32 × zH)} (hf : FX6_mark T a0 p0 p1 p2 p3 h = some r9) : ∃ fs, h a0 = some (.inr (6, fs)) := by
  obtain ⟨_, h1, _⟩ := zbind hf
  exact zo_obj h1
theorem dX6_checkWord_0 : decode cX6_checkWord 0 = .ok (.aload_n 0, 1) := by decide +kernel
theorem dX6_checkWord_1 : decode cX6_checkWord 1 = .ok (.getfield 59, 3) := by decide +kernel
theorem dX6_checkWord_4 : decode cX6_checkWord 4 = .ok (.iload_n 1, 1) := by decide +kernel
theorem dX6_checkWord_5 : decode cX6_checkWord 5 = .ok (.invokevirtual 334, 3) := by decide +kernel
theorem dX6_checkWord_8 : decode cX6_checkWord 8 = .ok (.ifCond .ne 14, 3) := by decide +kernel
theorem dX6_checkWord_11 : decode cX6_checkWord 11 = .ok (.new 316, 3) := by decide +kernel
theorem dX6_checkWord_14 : decode cX6_checkWord 14 = .ok (.dup, 1) := by decide +kernel
theorem dX6_checkWord_15 : decode cX6_checkWord 15 = .ok (.ldc_w 337, 3) := by decide +kernel
theorem dX6_checkWord_18 : decode cX6_checkWord 18 = .ok (.invokespecial 320, 3) := by decide +kernel
theorem dX6_checkWord_21 : decode cX6_checkWord 21 = .ok (.athrow, 1) := by decide +kernel
theorem dX6_checkWord_22 : decode cX6_checkWord 22 = .ok (.return_, 1) := by decide +kernel
def FX6_checkWord (T : zT) (a0 : Nat) (p0 : Int32) (h : zH) : Option (Except String Unit × zH) := (zo h a0 6).bind fun _ => (zgr h a0 6 8).bind fun x1 => (FX2_hasNumber T x1 p0 h).bind fun x3 => if x3 = 0 then (some (.error "java/lang/IndexOutOfBoundsException", h)) else (some (.ok (), h))
set_option maxHeartbeats 4000000 in
set_option maxRecDepth 100000 in
theorem BX6_checkWord {X : zX} (CX : zCX X cX6_checkWord 2 RX6 "checkWord" none 6 90) {hi : Nat} {h : zH} {a0 : Nat} {p0 : Int32} {r9 : (Except String Unit × zH)} (hf : FX6_checkWord (xT X) a0 p0 h = some r9) : zW X 2 (zZX X (zx cvU r9.1, r9.2)) 1 6 false hi h 0 [(0, .ref a0), (1, .int p0)] [] := by
  have C := CX.1
  unfold FX6_checkWord at hf
  obtain ⟨_, _, hf⟩ := zbind hf
  refine z_aload_n C dX6_checkWord_0 0 rfl rfl ?_
  refine z_getR C fl_X6_59 dX6_checkWord_1 hf (fun x1 hf => ?_)
  refine z_iload_n C dX6_checkWord_4 1 rfl rfl ?_
  obtain ⟨x3, g2, hf⟩ := zbind hf
  refine z_callV (kc' := 1) (ks' := 6) C (MX2_hasNumber (xl X) (xD X) (xT X) (xlo X) false hi g2) (OX2_hasNumber g2) rfl cw_X6_334 yv_X2_hasNumber dX6_checkWord_5 rfl (by decide) ⟨rfl, rfl⟩ (Nat.le_of_ble_eq_true rfl) (st := []) rfl ?_
  refine z_if_ne (tgt := 22) C dX6_checkWord_8 (by decide) hf (fun hf => ?_) (fun hf => ?_)
  · exact z_vreturnX CX dX6_checkWord_22 (by cases hf; rfl)
  · exact z_throwW CX ts_X6_337 dX6_checkWord_11 dX6_checkWord_14 dX6_checkWord_15 dX6_checkWord_18 dX6_checkWord_21 ⟨Nat.le_of_ble_eq_true rfl, Nat.le_of_ble_eq_true rfl⟩ ⟨by decide, by decide⟩ (by cases hf; rfl)
theorem MX6_checkWord (l : Launch) (hl9 : l.stackTraces = false) (D : va_G) (T : zT) (lo : Nat) (hi : Nat) {h : zH} {a0 : Nat} {p0 : Int32} {x9 : Except String Unit} {h9 : zH} (hf : FX6_checkWord T a0 p0 h = some (x9, h9)) : zMX l yX6_checkWord (.code yX6_checkWord cX6_checkWord 2 none :: TW) ({ frames := 6, cells := 1, slots := 6, locals := 90 } : Room) D T lo [.ref a0, .int p0] hi h (zx cvU x9, h9) :=
  z_enterX hl9 (own := RX6) (nm := "checkWord") (lv := [(0, .ref a0), (1, .int p0)]) (by decide +kernel) rfl rfl (Nat.le_of_ble_eq_true rfl) rfl (fun _ _ _ _ _ _ _ _ C => BX6_checkWord C hf)
theorem OX6_checkWord {T : zT} {h : zH} {a0 : Nat} {p0 : Int32} {r9 : (Except String Unit × zH)} (hf : FX6_checkWord T a0 p0 h = some r9) : ∃ fs, h a0 = some (.inr (6, fs)) := by
  obtain ⟨_, h1, _⟩ := zbind hf
  exact zo_obj h1
theorem dX6_wordLength_0 : decode cX6_wordLength 0 = .ok (.iload_n 1, 1) := by decide +kernel
theorem dX6_wordLength_1 : decode cX6_wordLength 1 = .ok (.invokestatic 134, 3) := by decide +kernel
theorem dX6_wordLength_4 : decode cX6_wordLength 4 = .ok (.aload_n 0, 1) := by decide +kernel
theorem dX6_wordLength_5 : decode cX6_wordLength 5 = .ok (.iload_n 1, 1) := by decide +kernel
theorem dX6_wordLength_6 : decode cX6_wordLength 6 = .ok (.invokevirtual 127, 3) := by decide +kernel
theorem dX6_wordLength_9 : decode cX6_wordLength 9 = .ok (.pop, 1) := by decide +kernel
theorem dX6_wordLength_10 : decode cX6_wordLength 10 = .ok (.aload_n 0, 1) := by decide +kernel
theorem dX6_wordLength_11 : decode cX6_wordLength 11 = .ok (.iload_n 2, 1) := by decide +kernel
theorem dX6_wordLength_12 : decode cX6_wordLength 12 = .ok (.invokevirtual 187, 3) := by decide +kernel
theorem dX6_wordLength_15 : decode cX6_wordLength 15 = .ok (.aload_n 0, 1) := by decide +kernel
theorem dX6_wordLength_16 : decode cX6_wordLength 16 = .ok (.getfield 59, 3) := by decide +kernel
theorem dX6_wordLength_19 : decode cX6_wordLength 19 = .ok (.iload_n 2, 1) := by decide +kernel
theorem dX6_wordLength_20 : decode cX6_wordLength 20 = .ok (.invokevirtual 190, 3) := by decide +kernel
theorem dX6_wordLength_23 : decode cX6_wordLength 23 = .ok (.ireturn, 1) := by decide +kernel
def FX6_wordLength (T : zT) (a0 : Nat) (p0 : Int32) (p1 : Int32) (h : zH) : Option (Except String Int32 × zH) := (zo h a0 6).bind fun _ => zbx (FX6_checkLetter T p0 h) fun x2 h3 => zb2 (FX6_readPresent T a0 p0 h3) fun x5 h6 => zbx (FX6_checkWord T a0 p1 h6) fun x8 h9 => (zgr h9 a0 6 8).bind fun x10 => (FX2_lengthOf T x10 p1 h9).bind fun x12 => some (.ok x12, h9)
set_option maxHeartbeats 4000000 in
set_option maxRecDepth 100000 in
theorem BX6_wordLength {X : zX} (CX : zCX X cX6_wordLength 3 RX6 "wordLength" (some .int) 7 148) {hi : Nat} {h : zH} {a0 : Nat} {p0 : Int32} {p1 : Int32} {r9 : (Except String Int32 × zH)} (hf : FX6_wordLength (xT X) a0 p0 p1 h = some r9) : zW X 3 (zZX X (zx cvI r9.1, r9.2)) 2 12 false hi h 0 [(0, .ref a0), (1, .int p0), (2, .int p1)] [] := by
  have C := CX.1
  unfold FX6_wordLength at hf
  obtain ⟨_, _, hf⟩ := zbind hf
  refine z_iload_n C dX6_wordLength_0 1 rfl rfl ?_
  refine z_callSX (kc' := 1) (ks' := 6) CX hf (fun _ _ e => MX6_checkLetter (xl X) CX.2.2.2 (xD X) (xT X) (xlo X) hi e) cw_X6_134 ys_X6_checkLetter dX6_wordLength_1 rfl (by decide) ⟨rfl, rfl⟩ (Nat.le_of_ble_eq_true rfl) (st := []) rfl (fun x2 h3 hf => ?_)
  refine z_aload_n C dX6_wordLength_4 0 rfl rfl ?_
  refine z_iload_n C dX6_wordLength_5 1 rfl rfl ?_
  obtain ⟨x5, h6, g4, hf⟩ := zbind2 hf
  refine z_callV (kc' := 1) (ks' := 6) C (MX6_readPresent (xl X) (xD X) (xT X) (xlo X) false hi g4) (OX6_readPresent g4) rfl cw_X6_127 yv_X6_readPresent dX6_wordLength_6 rfl (by decide) ⟨rfl, rfl⟩ (Nat.le_of_ble_eq_true rfl) (st := []) rfl ?_
  refine z_pop C dX6_wordLength_9 rfl ?_
  refine z_aload_n C dX6_wordLength_10 0 rfl rfl ?_
  refine z_iload_n C dX6_wordLength_11 2 rfl rfl ?_
  refine z_callVX (kc' := 0) (ks' := 0) CX hf (fun _ _ e => MX6_checkWord (xl X) CX.2.2.2 (xD X) (xT X) (xlo X) hi e) (fun _ e => OX6_checkWord e) rfl cw_X6_187 yv_X6_checkWord dX6_wordLength_12 rfl (by decide) ⟨rfl, rfl⟩ (Nat.le_of_ble_eq_true rfl) (st := []) rfl (fun x8 h9 hf => ?_)
  refine z_aload_n C dX6_wordLength_15 0 rfl rfl ?_
  refine z_getR C fl_X6_59 dX6_wordLength_16 hf (fun x10 hf => ?_)
  refine z_iload_n C dX6_wordLength_19 2 rfl rfl ?_
  obtain ⟨x12, g11, hf⟩ := zbind hf
  refine z_callV (kc' := 0) (ks' := 0) C (MX2_lengthOf (xl X) (xD X) (xT X) (xlo X) false hi g11) (OX2_lengthOf g11) rfl cw_X6_190 yv_X2_lengthOf dX6_wordLength_20 rfl (by decide) ⟨rfl, rfl⟩ (Nat.le_of_ble_eq_true rfl) (st := []) rfl ?_
  exact z_ireturnX CX dX6_wordLength_23 (by cases hf; rfl)
theorem MX6_wordLength (l : Launch) (hl9 : l.stackTraces = false) (D : va_G) (T : zT) (lo : Nat) (hi : Nat) {h : zH} {a0 : Nat} {p0 : Int32} {p1 : Int32} {x9 : Except String Int32} {h9 : zH} (hf : FX6_wordLength T a0 p0 p1 h = some (x9, h9)) : zMX l yX6_wordLength (.code yX6_wordLength cX6_wordLength 3 (some .int) :: TW) ({ frames := 7, cells := 2, slots := 12, locals := 148 } : Room) D T lo [.ref a0, .int p0, .int p1] hi h (zx cvI x9, h9) :=
  z_enterX hl9 (own := RX6) (nm := "wordLength") (lv := [(0, .ref a0), (1, .int p0), (2, .int p1)]) (by decide +kernel) rfl rfl (Nat.le_of_ble_eq_true rfl) rfl (fun _ _ _ _ _ _ _ _ C => BX6_wordLength C hf)
theorem OX6_wordLength {T : zT} {h : zH} {a0 : Nat} {p0 : Int32} {p1 : Int32} {r9 : (Except String Int32 × zH)} (hf : FX6_wordLength T a0 p0 p1 h = some r9) : ∃ fs, h a0 = some (.inr (6, fs)) := by
  obtain ⟨_, h1, _⟩ := zbind hf
  exact zo_obj h1
theorem dX6_sign_0 : decode cX6_sign 0 = .ok (.iload_n 1, 1) := by decide +kernel
theorem dX6_sign_1 : decode cX6_sign 1 = .ok (.invokestatic 134, 3) := by decide +kernel
theorem dX6_sign_4 : decode cX6_sign 4 = .ok (.aload_n 0, 1) := by decide +kernel
theorem dX6_sign_5 : decode cX6_sign 5 = .ok (.iload_n 1, 1) := by decide +kernel
theorem dX6_sign_6 : decode cX6_sign 6 = .ok (.invokevirtual 127, 3) := by decide +kernel
theorem dX6_sign_9 : decode cX6_sign 9 = .ok (.pop, 1) := by decide +kernel
theorem dX6_sign_10 : decode cX6_sign 10 = .ok (.aload_n 0, 1) := by decide +kernel
theorem dX6_sign_11 : decode cX6_sign 11 = .ok (.iload_n 2, 1) := by decide +kernel
theorem dX6_sign_12 : decode cX6_sign 12 = .ok (.invokevirtual 187, 3) := by decide +kernel
theorem dX6_sign_15 : decode cX6_sign 15 = .ok (.iload_n 3, 1) := by decide +kernel
theorem dX6_sign_16 : decode cX6_sign 16 = .ok (.ifCond .ge 13, 3) := by decide +kernel
theorem dX6_sign_19 : decode cX6_sign 19 = .ok (.new 193, 3) := by decide +kernel
theorem dX6_sign_22 : decode cX6_sign 22 = .ok (.dup, 1) := by decide +kernel
theorem dX6_sign_23 : decode cX6_sign 23 = .ok (.ldc 195, 2) := by decide +kernel
theorem dX6_sign_25 : decode cX6_sign 25 = .ok (.invokespecial 197, 3) := by decide +kernel
theorem dX6_sign_28 : decode cX6_sign 28 = .ok (.athrow, 1) := by decide +kernel
theorem dX6_sign_29 : decode cX6_sign 29 = .ok (.aload_n 0, 1) := by decide +kernel
theorem dX6_sign_30 : decode cX6_sign 30 = .ok (.getfield 59, 3) := by decide +kernel
theorem dX6_sign_33 : decode cX6_sign 33 = .ok (.iload_n 2, 1) := by decide +kernel
theorem dX6_sign_34 : decode cX6_sign 34 = .ok (.iload_n 3, 1) := by decide +kernel
theorem dX6_sign_35 : decode cX6_sign 35 = .ok (.invokevirtual 198, 3) := by decide +kernel
theorem dX6_sign_38 : decode cX6_sign 38 = .ok (.ireturn, 1) := by decide +kernel
def FX6_sign (T : zT) (a0 : Nat) (p0 : Int32) (p1 : Int32) (p2 : Int32) (h : zH) : Option (Except String Int32 × zH) := (zo h a0 6).bind fun _ => zbx (FX6_checkLetter T p0 h) fun x2 h3 => zb2 (FX6_readPresent T a0 p0 h3) fun x5 h6 => zbx (FX6_checkWord T a0 p1 h6) fun x8 h9 => if 0 ≤ p2 then ((zgr h9 a0 6 8).bind fun x10 => (FX2_signAt T x10 p1 p2 h9).bind fun x12 => some (.ok x12, h9)) else (some (.error "java/lang/IllegalArgumentException", h9))
set_option maxHeartbeats 4000000 in
set_option maxRecDepth 100000 in
theorem BX6_sign {X : zX} (CX : zCX X cX6_sign 4 RX6 "sign" (some .int) 7 148) {hi : Nat} {h : zH} {a0 : Nat} {p0 : Int32} {p1 : Int32} {p2 : Int32} {r9 : (Except String Int32 × zH)} (hf : FX6_sign (xT X) a0 p0 p1 p2 h = some r9) : zW X 4 (zZX X (zx cvI r9.1, r9.2)) 3 18 false hi h 0 [(0, .ref a0), (1, .int p0), (2, .int p1), (3, .int p2)] [] := by
  have C := CX.1
  unfold FX6_sign at hf
  obtain ⟨_, _, hf⟩ := zbind hf
  refine z_iload_n C dX6_sign_0 1 rfl rfl ?_
  refine z_callSX (kc' := 2) (ks' := 12) CX hf (fun _ _ e => MX6_checkLetter (xl X) CX.2.2.2 (xD X) (xT X) (xlo X) hi e) cw_X6_134 ys_X6_checkLetter dX6_sign_1 rfl (by decide) ⟨rfl, rfl⟩ (Nat.le_of_ble_eq_true rfl) (st := []) rfl (fun x2 h3 hf => ?_)
  refine z_aload_n C dX6_sign_4 0 rfl rfl ?_
  refine z_iload_n C dX6_sign_5 1 rfl rfl ?_
  obtain ⟨x5, h6, g4, hf⟩ := zbind2 hf
  refine z_callV (kc' := 2) (ks' := 12) C (MX6_readPresent (xl X) (xD X) (xT X) (xlo X) false hi g4) (OX6_readPresent g4) rfl cw_X6_127 yv_X6_readPresent dX6_sign_6 rfl (by decide) ⟨rfl, rfl⟩ (Nat.le_of_ble_eq_true rfl) (st := []) rfl ?_
  refine z_pop C dX6_sign_9 rfl ?_
  refine z_aload_n C dX6_sign_10 0 rfl rfl ?_
  refine z_iload_n C dX6_sign_11 2 rfl rfl ?_
  refine z_callVX (kc' := 1) (ks' := 6) CX hf (fun _ _ e => MX6_checkWord (xl X) CX.2.2.2 (xD X) (xT X) (xlo X) hi e) (fun _ e => OX6_checkWord e) rfl cw_X6_187 yv_X6_checkWord dX6_sign_12 rfl (by decide) ⟨rfl, rfl⟩ (Nat.le_of_ble_eq_true rfl) (st := []) rfl (fun x8 h9 hf => ?_)
  refine z_iload_n C dX6_sign_15 3 rfl rfl ?_
  refine z_if_ge (tgt := 29) C dX6_sign_16 (by decide) hf (fun hf => ?_) (fun hf => ?_)
  · refine z_aload_n C dX6_sign_29 0 rfl rfl ?_
    refine z_getR C fl_X6_59 dX6_sign_30 hf (fun x10 hf => ?_)
    refine z_iload_n C dX6_sign_33 2 rfl rfl ?_
    refine z_iload_n C dX6_sign_34 3 rfl rfl ?_
    obtain ⟨x12, g11, hf⟩ := zbind hf
    refine z_callV (kc' := 1) (ks' := 6) C (MX2_signAt (xl X) (xD X) (xT X) (xlo X) false hi g11) (OX2_signAt g11) rfl cw_X6_198 yv_X2_signAt dX6_sign_35 rfl (by decide) ⟨rfl, rfl⟩ (Nat.le_of_ble_eq_true rfl) (st := []) rfl ?_
    exact z_ireturnX CX dX6_sign_38 (by cases hf; rfl)
  · exact z_throw CX ts_X6_195 dX6_sign_19 dX6_sign_22 dX6_sign_23 dX6_sign_25 dX6_sign_28 ⟨Nat.le_of_ble_eq_true rfl, Nat.le_of_ble_eq_true rfl⟩ ⟨by decide, by decide⟩ (by cases hf; rfl)
theorem MX6_sign (l : Launch) (hl9 : l.stackTraces = false) (D : va_G) (T : zT) (lo : Nat) (hi : Nat) {h : zH} {a0 : Nat} {p0 : Int32} {p1 : Int32} {p2 : Int32} {x9 : Except String Int32} {h9 : zH} (hf : FX6_sign T a0 p0 p1 p2 h = some (x9, h9)) : zMX l yX6_sign (.code yX6_sign cX6_sign 4 (some .int) :: TW) ({ frames := 7, cells := 3, slots := 18, locals := 148 } : Room) D T lo [.ref a0, .int p0, .int p1, .int p2] hi h (zx cvI x9, h9) :=
  z_enterX hl9 (own := RX6) (nm := "sign") (lv := [(0, .ref a0), (1, .int p0), (2, .int p1), (3, .int p2)]) (by decide +kernel) rfl rfl (Nat.le_of_ble_eq_true rfl) rfl (fun _ _ _ _ _ _ _ _ C => BX6_sign C hf)
theorem OX6_sign {T : zT} {h : zH} {a0 : Nat} {p0 : Int32} {p1 : Int32} {p2 : Int32} {r9 : (Except String Int32 × zH)} (hf : FX6_sign T a0 p0 p1 p2 h = some r9) : ∃ fs, h a0 = some (.inr (6, fs)) := by
  obtain ⟨_, h1, _⟩ := zbind hf
  exact zo_obj h1
theorem dX6_wordAt_0 : decode cX6_wordAt 0 = .ok (.iload_n 1, 1) := by decide +kernel
theorem dX6_wordAt_1 : decode cX6_wordAt 1 = .ok (.invokestatic 134, 3) := by decide +kernel
theorem dX6_wordAt_4 : decode cX6_wordAt 4 = .ok (.aload_n 0, 1) := by decide +kernel
theorem dX6_wordAt_5 : decode cX6_wordAt 5 = .ok (.iload_n 2, 1) := by decide +kernel
theorem dX6_wordAt_6 : decode cX6_wordAt 6 = .ok (.iload_n 3, 1) := by decide +kernel
theorem dX6_wordAt_7 : decode cX6_wordAt 7 = .ok (.invokevirtual 152, 3) := by decide +kernel
theorem dX6_wordAt_10 : decode cX6_wordAt 10 = .ok (.aload_n 0, 1) := by decide +kernel
theorem dX6_wordAt_11 : decode cX6_wordAt 11 = .ok (.iload_n 1, 1) := by decide +kernel
theorem dX6_wordAt_12 : decode cX6_wordAt 12 = .ok (.invokevirtual 127, 3) := by decide +kernel
theorem dX6_wordAt_15 : decode cX6_wordAt 15 = .ok (.pop, 1) := by decide +kernel
theorem dX6_wordAt_16 : decode cX6_wordAt 16 = .ok (.aload_n 0, 1) := by decide +kernel
theorem dX6_wordAt_17 : decode cX6_wordAt 17 = .ok (.getfield 59, 3) := by decide +kernel
theorem dX6_wordAt_20 : decode cX6_wordAt 20 = .ok (.getfield 201, 3) := by decide +kernel
theorem dX6_wordAt_23 : decode cX6_wordAt 23 = .ok (.iload_n 2, 1) := by decide +kernel
theorem dX6_wordAt_24 : decode cX6_wordAt 24 = .ok (.iload_n 3, 1) := by decide +kernel
theorem dX6_wordAt_25 : decode cX6_wordAt 25 = .ok (.invokestatic 204, 3) := by decide +kernel
theorem dX6_wordAt_28 : decode cX6_wordAt 28 = .ok (.invokevirtual 140, 3) := by decide +kernel
theorem dX6_wordAt_31 : decode cX6_wordAt 31 = .ok (.ireturn, 1) := by decide +kernel
def FX6_wordAt (T : zT) (a0 : Nat) (p0 : Int32) (p1 : Int32) (p2 : Int32) (h : zH) : Option (Except String Int32 × zH) := (zo h a0 6).bind fun _ => zbx (FX6_checkLetter T p0 h) fun x2 h3 => zbx (FX6_checkCell T a0 p1 p2 h3) fun x5 h6 => zb2 (FX6_readPresent T a0 p0 h6) fun x8 h9 => (zgr h9 a0 6 8).bind fun x10 => (zgr h9 x10 2 2).bind fun x11 => (FX6_cellOf T p1 p2 h9).bind fun x13 => (FX1_at T x11 x13 h9).bind fun x15 => some (.ok x15, h9)
set_option maxHeartbeats 4000000 in
set_option maxRecDepth 100000 in
theorem BX6_wordAt {X : zX} (CX : zCX X cX6_wordAt 4 RX6 "wordAt" (some .int) 7 148) {hi : Nat} {h : zH} {a0 : Nat} {p0 : Int32} {p1 : Int32} {p2 : Int32} {r9 : (Except String Int32 × zH)} (hf : FX6_wordAt (xT X) a0 p0 p1 p2 h = some r9) : zW X 4 (zZX X (zx cvI r9.1, r9.2)) 2 12 false hi h 0 [(0, .ref a0), (1, .int p0), (2, .int p1), (3, .int p2)] [] := by
  have C := CX.1
  unfold FX6_wordAt at hf
  obtain ⟨_, _, hf⟩ := zbind hf
  refine z_iload_n C dX6_wordAt_0 1 rfl rfl ?_
  refine z_callSX (kc' := 1) (ks' := 6) CX hf (fun _ _ e => MX6_checkLetter (xl X) CX.2.2.2 (xD X) (xT X) (xlo X) hi e) cw_X6_134 ys_X6_checkLetter dX6_wordAt_1 rfl (by decide) ⟨rfl, rfl⟩ (Nat.le_of_ble_eq_true rfl) (st := []) rfl (fun x2 h3 hf => ?_)
  refine z_aload_n C dX6_wordAt_4 0 rfl rfl ?_
  refine z_iload_n C dX6_wordAt_5 2 rfl rfl ?_
  refine z_iload_n C dX6_wordAt_6 3 rfl rfl ?_
  refine z_callVX (kc' := 0) (ks' := 0) CX hf (fun _ _ e => MX6_checkCell (xl X) CX.2.2.2 (xD X) (xT X) (xlo X) hi e) (fun _ e => OX6_checkCell e) rfl cw_X6_152 yv_X6_checkCell dX6_wordAt_7 rfl (by decide) ⟨rfl, rfl⟩ (Nat.le_of_ble_eq_true rfl) (st := []) rfl (fun x5 h6 hf => ?_)
  refine z_aload_n C dX6_wordAt_10 0 rfl rfl ?_
  refine z_iload_n C dX6_wordAt_11 1 rfl rfl ?_
  obtain ⟨x8, h9, g7, hf⟩ := zbind2 hf
  refine z_callV (kc' := 0) (ks' := 0) C (MX6_readPresent (xl X) (xD X) (xT X) (xlo X) false hi g7) (OX6_readPresent g7) rfl cw_X6_127 yv_X6_readPresent dX6_wordAt_12 rfl (by decide) ⟨rfl, rfl⟩ (Nat.le_of_ble_eq_true rfl) (st := []) rfl ?_
  refine z_pop C dX6_wordAt_15 rfl ?_
  refine z_aload_n C dX6_wordAt_16 0 rfl rfl ?_
  refine z_getR C fl_X6_59 dX6_wordAt_17 hf (fun x10 hf => ?_)
  refine z_getR C fl_X6_201 dX6_wordAt_20 hf (fun x11 hf => ?_)
  refine z_iload_n C dX6_wordAt_23 2 rfl rfl ?_
  refine z_iload_n C dX6_wordAt_24 3 rfl rfl ?_
  obtain ⟨x13, g12, hf⟩ := zbind hf
  refine z_callS (kc' := 0) (ks' := 0) C (MX6_cellOf (xl X) (xD X) (xT X) (xlo X) false hi g12) cw_X6_204 ys_X6_cellOf dX6_wordAt_25 rfl (by decide) ⟨rfl, rfl⟩ (Nat.le_of_ble_eq_true rfl) (st := [.ref x11]) rfl ?_
  obtain ⟨x15, g14, hf⟩ := zbind hf
  refine z_callV (kc' := 0) (ks' := 0) C (MX1_at (xl X) (xD X) (xT X) (xlo X) false hi g14) (OX1_at g14) rfl cw_X6_140 yv_X1_at dX6_wordAt_28 rfl (by decide) ⟨rfl, rfl⟩ (Nat.le_of_ble_eq_true rfl) (st := []) rfl ?_
  exact z_ireturnX CX dX6_wordAt_31 (by cases hf; rfl)
theorem MX6_wordAt (l : Launch) (hl9 : l.stackTraces = false) (D : va_G) (T : zT) (lo : Nat) (hi : Nat) {h : zH} {a0 : Nat} {p0 : Int32} {p1 : Int32} {p2 : Int32} {x9 : Except String Int32} {h9 : zH} (hf : FX6_wordAt T a0 p0 p1 p2 h = some (x9, h9)) : zMX l yX6_wordAt (.code yX6_wordAt cX6_wordAt 4 (some .int) :: TW) ({ frames := 7, cells := 2, slots := 12, locals := 148 } : Room) D T lo [.ref a0, .int p0, .int p1, .int p2] hi h (zx cvI x9, h9) :=
  z_enterX hl9 (own := RX6) (nm := "wordAt") (lv := [(0, .ref a0), (1, .int p0), (2, .int p1), (3, .int p2)]) (by decide +kernel) rfl rfl (Nat.le_of_ble_eq_true rfl) rfl (fun _ _ _ _ _ _ _ _ C => BX6_wordAt C hf)
theorem OX6_wordAt {T : zT} {h : zH} {a0 : Nat} {p0 : Int32} {p1 : Int32} {p2 : Int32} {r9 : (Except String Int32 × zH)} (hf : FX6_wordAt T a0 p0 p1 p2 h = some r9) : ∃ fs, h a0 = some (.inr (6, fs)) := by
  obtain ⟨_, h1, _⟩ := zbind hf
  exact zo_obj h1
theorem dX6_write_0 : decode cX6_write 0 = .ok (.aload_n 0, 1) := by decide +kernel
theorem dX6_write_1 : decode cX6_write 1 = .ok (.iload_n 1, 1) := by decide +kernel
theorem dX6_write_2 : decode cX6_write 2 = .ok (.iload_n 2, 1) := by decide +kernel
theorem dX6_write_3 : decode cX6_write 3 = .ok (.invokevirtual 152, 3) := by decide +kernel
theorem dX6_write_6 : decode cX6_write 6 = .ok (.iload_n 3, 1) := by decide +kernel
theorem dX6_write_7 : decode cX6_write 7 = .ok (.iconst 0, 1) := by decide +kernel
theorem dX6_write_8 : decode cX6_write 8 = .ok (.bipush 26, 2) := by decide +kernel
theorem dX6_write_10 : decode cX6_write 10 = .ok (.invokestatic 72, 3) := by decide +kernel
theorem dX6_write_13 : decode cX6_write 13 = .ok (.iload 4, 2) := by decide +kernel
theorem dX6_write_15 : decode cX6_write 15 = .ok (.iconst 0, 1) := by decide +kernel
theorem dX6_write_16 : decode cX6_write 16 = .ok (.iconst 3, 1) := by decide +kernel
theorem dX6_write_17 : decode cX6_write 17 = .ok (.invokestatic 72, 3) := by decide +kernel
theorem dX6_write_20 : decode cX6_write 20 = .ok (.iload 5, 2) := by decide +kernel
theorem dX6_write_22 : decode cX6_write 22 = .ok (.iconst 0, 1) := by decide +kernel
theorem dX6_write_23 : decode cX6_write 23 = .ok (.bipush 8, 2) := by decide +kernel
theorem dX6_write_25 : decode cX6_write 25 = .ok (.invokestatic 72, 3) := by decide +kernel
theorem dX6_write_28 : decode cX6_write 28 = .ok (.aload_n 0, 1) := by decide +kernel
theorem dX6_write_29 : decode cX6_write 29 = .ok (.getfield 32, 3) := by decide +kernel
theorem dX6_write_32 : decode cX6_write 32 = .ok (.iload_n 1, 1) := by decide +kernel
theorem dX6_write_33 : decode cX6_write 33 = .ok (.iload_n 2, 1) := by decide +kernel
theorem dX6_write_34 : decode cX6_write 34 = .ok (.invokevirtual 207, 3) := by decide +kernel
theorem dX6_write_37 : decode cX6_write 37 = .ok (.ifCond .ne 13, 3) := by decide +kernel
theorem dX6_write_40 : decode cX6_write 40 = .ok (.new 76, 3) := by decide +kernel
theorem dX6_write_43 : decode cX6_write 43 = .ok (.dup, 1) := by decide +kernel
theorem dX6_write_44 : decode cX6_write 44 = .ok (.ldc 211, 2) := by decide +kernel
theorem dX6_write_46 : decode cX6_write 46 = .ok (.invokespecial 80, 3) := by decide +kernel
theorem dX6_write_49 : decode cX6_write 49 = .ok (.athrow, 1) := by decide +kernel
theorem dX6_write_50 : decode cX6_write 50 = .ok (.aload_n 0, 1) := by decide +kernel
theorem dX6_write_51 : decode cX6_write 51 = .ok (.getfield 45, 3) := by decide +kernel
theorem dX6_write_54 : decode cX6_write 54 = .ok (.aload_n 0, 1) := by decide +kernel
theorem dX6_write_55 : decode cX6_write 55 = .ok (.getfield 32, 3) := by decide +kernel
theorem dX6_write_58 : decode cX6_write 58 = .ok (.invokevirtual 213, 3) := by decide +kernel
theorem dX6_write_61 : decode cX6_write 61 = .ok (.aload_n 0, 1) := by decide +kernel
theorem dX6_write_62 : decode cX6_write 62 = .ok (.getfield 32, 3) := by decide +kernel
theorem dX6_write_65 : decode cX6_write 65 = .ok (.iload_n 1, 1) := by decide +kernel
theorem dX6_write_66 : decode cX6_write 66 = .ok (.iload_n 2, 1) := by decide +kernel
theorem dX6_write_67 : decode cX6_write 67 = .ok (.invokevirtual 155, 3) := by decide +kernel
theorem dX6_write_70 : decode cX6_write 70 = .ok (.istore 6, 2) := by decide +kernel
theorem dX6_write_72 : decode cX6_write 72 = .ok (.aload_n 0, 1) := by decide +kernel
theorem dX6_write_73 : decode cX6_write 73 = .ok (.getfield 32, 3) := by decide +kernel
theorem dX6_write_76 : decode cX6_write 76 = .ok (.iload_n 1, 1) := by decide +kernel
theorem dX6_write_77 : decode cX6_write 77 = .ok (.iload_n 2, 1) := by decide +kernel
theorem dX6_write_78 : decode cX6_write 78 = .ok (.iload_n 3, 1) := by decide +kernel
theorem dX6_write_79 : decode cX6_write 79 = .ok (.iload 4, 2) := by decide +kernel
theorem dX6_write_81 : decode cX6_write 81 = .ok (.iload 5, 2) := by decide +kernel
theorem dX6_write_83 : decode cX6_write 83 = .ok (.invokevirtual 216, 3) := by decide +kernel
theorem dX6_write_86 : decode cX6_write 86 = .ok (.iload 6, 2) := by decide +kernel
theorem dX6_write_88 : decode cX6_write 88 = .ok (.ireturn, 1) := by decide +kernel
def FX6_write (T : zT) (a0 : Nat) (p0 : Int32) (p1 : Int32) (p2 : Int32) (p3 : Int32) (p4 : Int32) (h : zH) : Option (Except String Int32 × zH) := (zo h a0 6).bind fun _ => zbx (FX6_checkCell T a0 p0 p1 h) fun x2 h3 => zbx (FX6_checkArgument T p2 0 26 h3) fun x5 h6 => zbx (FX6_checkArgument T p3 0 3 h6) fun x8 h9 => zbx (FX6_checkArgument T p4 0 8 h9) fun x11 h12 => (zgr h12 a0 6 3).bind fun x13 => (FX3_hasRoom T x13 p0 p1 h12).bind fun x15 => if x15 = 0 then (some (.error "java/lang/IllegalStateException", h12)) else ((zgr h12 a0 6 6).bind fun x16 => (zgr h12 a0 6 3).bind fun x17 => (FX0_remember T x16 x17 h12).bind fun h19 => (zgr h19 a0 6 3).bind fun x20 => (FX3_marksIn T x20 p0 p1 h19).bind fun x22 => (zgr h19 a0 6 3).bind fun x23 => (FX3_addMark T x23 p0 p1 p2 p3 p4 h19).bind fun h25 => some (.ok x22, h25))
set_option maxHeartbeats 4000000 in
set_option maxRecDepth 100000 in
theorem BX6_write {X : zX} (CX : zCX X cX6_write 7 RX6 "write" (some .int) 7 112) {hi : Nat} {h : zH} {a0 : Nat} {p0 : Int32} {p1 : Int32} {p2 : Int32} {p3 : Int32} {p4 : Int32} {r9 : (Except String Int32 × zH)} (hf : FX6_write (xT X) a0 p0 p1 p2 p3 p4 h = some r9) : zW X 7 (zZX X (zx cvI r9.1, r9.2)) 5 30 false hi h 0 [(0, .ref a0), (1, .int p0), (2, .int p1), (3, .int p2), (4, .int p3), (5, .int p4)] [] := by
  have C := CX.1
  unfold FX6_write at hf
  obtain ⟨_, _, hf⟩ := zbind hf
  refine z_aload_n C dX6_write_0 0 rfl rfl ?_
  refine z_iload_n C dX6_write_1 1 rfl rfl ?_
  refine z_iload_n C dX6_write_2 2 rfl rfl ?_
  refine z_callVX (kc' := 4) (ks' := 24) CX hf (fun _ _ e => MX6_checkCell (xl X) CX.2.2.2 (xD X) (xT X) (xlo X) hi e) (fun _ e => OX6_checkCell e) rfl cw_X6_152 yv_X6_checkCell dX6_write_3 rfl (by decide) ⟨rfl, rfl⟩ (Nat.le_of_ble_eq_true rfl) (st := []) rfl (fun x2 h3 hf => ?_)
  refine z_iload_n C dX6_write_6 3 rfl rfl ?_
  refine z_iconst C (v := 0) dX6_write_7 (by decide) ?_
  refine z_bipush C (v := 26) dX6_write_8 (by decide) ?_
  refine z_callSX (kc' := 3) (ks' := 18) CX hf (fun _ _ e => MX6_checkArgument (xl X) CX.2.2.2 (xD X) (xT X) (xlo X) hi e) cw_X6_72 ys_X6_checkArgument dX6_write_10 rfl (by decide) ⟨rfl, rfl⟩ (Nat.le_of_ble_eq_true rfl) (st := []) rfl (fun x5 h6 hf => ?_)
  refine z_iload C dX6_write_13 4 rfl ?_
  refine z_iconst C (v := 0) dX6_write_15 (by decide) ?_
  refine z_iconst C (v := 3) dX6_write_16 (by decide) ?_
  refine z_callSX (kc' := 2) (ks' := 12) CX hf (fun _ _ e => MX6_checkArgument (xl X) CX.2.2.2 (xD X) (xT X) (xlo X) hi e) cw_X6_72 ys_X6_checkArgument dX6_write_17 rfl (by decide) ⟨rfl, rfl⟩ (Nat.le_of_ble_eq_true rfl) (st := []) rfl (fun x8 h9 hf => ?_)
  refine z_iload C dX6_write_20 5 rfl ?_
  refine z_iconst C (v := 0) dX6_write_22 (by decide) ?_
  refine z_bipush C (v := 8) dX6_write_23 (by decide) ?_
  refine z_callSX (kc' := 1) (ks' := 6) CX hf (fun _ _ e => MX6_checkArgument (xl X) CX.2.2.2 (xD X) (xT X) (xlo X) hi e) cw_X6_72 ys_X6_checkArgument dX6_write_25 rfl (by decide) ⟨rfl, rfl⟩ (Nat.le_of_ble_eq_true rfl) (st := []) rfl (fun x11 h12 hf => ?_)
  refine z_aload_n C dX6_write_28 0 rfl rfl ?_
  refine z_getR C fl_X6_32 dX6_write_29 hf (fun x13 hf => ?_)
  refine z_iload_n C dX6_write_32 1 rfl rfl ?_
  refine z_iload_n C dX6_write_33 2 rfl rfl ?_
  obtain ⟨x15, g14, hf⟩ := zbind hf
  refine z_callV (kc' := 1) (ks' := 6) C (MX3_hasRoom (xl X) (xD X) (xT X) (xlo X) false hi g14) (OX3_hasRoom g14) rfl cw_X6_207 yv_X3_hasRoom dX6_write_34 rfl (by decide) ⟨rfl, rfl⟩ (Nat.le_of_ble_eq_true rfl) (st := []) rfl ?_
  refine z_if_ne (tgt := 50) C dX6_write_37 (by decide) hf (fun hf => ?_) (fun hf => ?_)
  · refine z_aload_n C dX6_write_50 0 rfl rfl ?_
    refine z_getR C fl_X6_45 dX6_write_51 hf (fun x16 hf => ?_)
    refine z_aload_n C dX6_write_54 0 rfl rfl ?_
    refine z_getR C fl_X6_32 dX6_write_55 hf (fun x17 hf => ?_)
    obtain ⟨h19, g18, hf⟩ := zbind hf
    refine z_callV (kc' := 1) (ks' := 6) C (MX0_remember (xl X) (xD X) (xT X) (xlo X) hi g18) (OX0_remember g18) rfl cw_X6_213 yv_X0_remember dX6_write_58 rfl (by decide) ⟨rfl, rfl⟩ (Nat.le_of_ble_eq_true rfl) (st := []) rfl ?_
    refine z_aload_n C dX6_write_61 0 rfl rfl ?_
    refine z_getR C fl_X6_32 dX6_write_62 hf (fun x20 hf => ?_)
    refine z_iload_n C dX6_write_65 1 rfl rfl ?_
    refine z_iload_n C dX6_write_66 2 rfl rfl ?_
    obtain ⟨x22, g21, hf⟩ := zbind hf
    refine z_callV (kc' := 1) (ks' := 6) C (MX3_marksIn (xl X) (xD X) (xT X) (xlo X) false hi g21) (OX3_marksIn g21) rfl cw_X6_155 yv_X3_marksIn dX6_write_67 rfl (by decide) ⟨rfl, rfl⟩ (Nat.le_of_ble_eq_true rfl) (st := []) rfl ?_
    refine z_istore C dX6_write_70 (by decide) (lv' := [(6, .int x22), (0, .ref a0), (1, .int p0), (2, .int p1), (3, .int p2), (4, .int p3), (5, .int p4)]) rfl ?_
    refine z_aload_n C dX6_write_72 1 rfl rfl ?_
    refine z_getR C fl_X6_32 dX6_write_73 hf (fun x23 hf => ?_)
    refine z_iload_n C dX6_write_76 2 rfl rfl ?_
    refine z_iload_n C dX6_write_77 3 rfl rfl ?_
    refine z_iload_n C dX6_write_78 4 rfl rfl ?_
    refine z_iload C dX6_write_79 5 rfl ?_
    refine z_iload C dX6_write_81 6 rfl ?_
    obtain ⟨h25, g24, hf⟩ := zbind hf
    refine z_callV (kc' := 1) (ks' := 6) C (MX3_addMark (xl X) (xD X) (xT X) (xlo X) false hi g24) (OX3_addMark g24) rfl cw_X6_216 yv_X3_addMark dX6_write_83 rfl (by decide) ⟨rfl, rfl⟩ (Nat.le_of_ble_eq_true rfl) (st := []) rfl ?_
    refine z_iload C dX6_write_86 0 rfl ?_
    exact z_ireturnX CX dX6_write_88 (by cases hf; rfl)
  · exact z_throw CX ts_X6_211 dX6_write_40 dX6_write_43 dX6_write_44 dX6_write_46 dX6_write_49 ⟨Nat.le_of_ble_eq_true rfl, Nat.le_of_ble_eq_true rfl⟩ ⟨by decide, by decide⟩ (by cases hf; rfl)
theorem MX6_write (l : Launch) (hl9 : l.stackTraces = false) (D : va_G) (T : zT) (lo : Nat) (hi : Nat) {h : zH} {a0 : Nat} {p0 : Int32} {p1 : Int32} {p2 : Int32} {p3 : Int32} {p4 : Int32} {x9 : Except String Int32} {h9 : zH} (hf : FX6_write T a0 p0 p1 p2 p3 p4 h = some (x9, h9)) : zMX l yX6_write (.code yX6_write cX6_write 7 (some .int) :: TW) ({ frames := 7, cells := 5, slots := 30, locals := 112 } : Room) D T lo [.ref a0, .int p0, .int p1, .int p2, .int p3, .int p4] hi h (zx cvI x9, h9) :=
  z_enterX hl9 (own := RX6) (nm := "write") (lv := [(0, .ref a0), (1, .int p0), (2, .int p1), (3, .int p2), (4, .int p3), (5, .int p4)]) (by decide +kernel) rfl rfl (Nat.le_of_ble_eq_true rfl) rfl (fun _ _ _ _ _ _ _ _ C => BX6_write C hf)
theorem OX6_write {T : zT} {h : zH} {a0 : Nat} {p0 : Int32} {p1 : Int32} {p2 : Int32} {p3 : Int32} {p4 : Int32} {r9 : (Except String Int32 × zH)} (hf : FX6_write T a0 p0 p1 p2 p3 p4 h = some r9) : ∃ fs, h a0 = some (.inr (6, fs)) := by
  obtain ⟨_, h1, _⟩ := zbind hf
  exact zo_obj h1
theorem dX6_erase_0 : decode cX6_erase 0 = .ok (.aload_n 0, 1) := by decide +kernel
theorem dX6_erase_1 : decode cX6_erase 1 = .ok (.iload_n 1, 1) := by decide +kernel
theorem dX6_erase_2 : decode cX6_erase 2 = .ok (.iload_n 2, 1) := by decide +kernel
theorem dX6_erase_3 : decode cX6_erase 3 = .ok (.iload_n 3, 1) := by decide +kernel
theorem dX6_erase_4 : decode cX6_erase 4 = .ok (.invokevirtual 159, 3) := by decide +kernel
theorem dX6_erase_7 : decode cX6_erase 7 = .ok (.aload_n 0, 1) := by decide +kernel
theorem dX6_erase_8 : decode cX6_erase 8 = .ok (.getfield 45, 3) := by decide +kernel
theorem dX6_erase_11 : decode cX6_erase 11 = .ok (.aload_n 0, 1) := by decide +kernel
theorem dX6_erase_12 : decode cX6_erase 12 = .ok (.getfield 32, 3) := by decide +kernel
theorem dX6_erase_15 : decode cX6_erase 15 = .ok (.invokevirtual 213, 3) := by decide +kernel
theorem dX6_erase_18 : decode cX6_erase 18 = .ok (.aload_n 0, 1) := by decide +kernel
theorem dX6_erase_19 : decode cX6_erase 19 = .ok (.getfield 32, 3) := by decide +kernel
theorem dX6_erase_22 : decode cX6_erase 22 = .ok (.getfield 166, 3) := by decide +kernel
theorem dX6_erase_25 : decode cX6_erase 25 = .ok (.iload_n 1, 1) := by decide +kernel
theorem dX6_erase_26 : decode cX6_erase 26 = .ok (.iload_n 2, 1) := by decide +kernel
theorem dX6_erase_27 : decode cX6_erase 27 = .ok (.iload_n 3, 1) := by decide +kernel
theorem dX6_erase_28 : decode cX6_erase 28 = .ok (.invokestatic 162, 3) := by decide +kernel
theorem dX6_erase_31 : decode cX6_erase 31 = .ok (.invokevirtual 140, 3) := by decide +kernel
theorem dX6_erase_34 : decode cX6_erase 34 = .ok (.istore 4, 2) := by decide +kernel
theorem dX6_erase_36 : decode cX6_erase 36 = .ok (.aload_n 0, 1) := by decide +kernel
theorem dX6_erase_37 : decode cX6_erase 37 = .ok (.getfield 32, 3) := by decide +kernel
theorem dX6_erase_40 : decode cX6_erase 40 = .ok (.iload_n 1, 1) := by decide +kernel
theorem dX6_erase_41 : decode cX6_erase 41 = .ok (.iload_n 2, 1) := by decide +kernel
theorem dX6_erase_42 : decode cX6_erase 42 = .ok (.iload_n 3, 1) := by decide +kernel
theorem dX6_erase_43 : decode cX6_erase 43 = .ok (.invokevirtual 220, 3) := by decide +kernel
theorem dX6_erase_46 : decode cX6_erase 46 = .ok (.iload 4, 2) := by decide +kernel
theorem dX6_erase_48 : decode cX6_erase 48 = .ok (.ireturn, 1) := by decide +kernel
def FX6_erase (T : zT) (a0 : Nat) (p0 : Int32) (p1 : Int32) (p2 : Int32) (h : zH) : Option (Except String Int32 × zH) := (zo h a0 6).bind fun _ => zbx (FX6_checkMark T a0 p0 p1 p2 h) fun x2 h3 => (zgr h3 a0 6 6).bind fun x4 => (zgr h3 a0 6 3).bind fun x5 => (FX0_remember T x4 x5 h3).bind fun h7 => (zgr h7 a0 6 3).bind fun x8 => (zgr h7 x8 3 8).bind fun x9 => (FX6_placeOf T p0 p1 p2 h7).bind fun x11 => (FX1_at T x9 x11 h7).bind fun x13 => (zgr h7 a0 6 3).bind fun x14 => (FX3_removeMark T x14 p0 p1 p2 h7).bind fun h16 => some (.ok x13, h16)
set_option maxHeartbeats 4000000 in
set_option maxRecDepth 100000 in
theorem BX6_erase {X : zX} (CX : zCX X cX6_erase 5 RX6 "erase" (some .int) 7 113) {hi : Nat} {h : zH} {a0 : Nat} {p0 : Int32} {p1 : Int32} {p2 : Int32} {r9 : (Except String Int32 × zH)} (hf : FX6_erase (xT X) a0 p0 p1 p2 h = some r9) : zW X 5 (zZX X (zx cvI r9.1, r9.2)) 1 6 false hi h 0 [(0, .ref a0), (1, .int p0), (2, .int p1), (3, .int p2)] [] := by
  have C := CX.1
  unfold FX6_erase at hf
  obtain ⟨_, _, hf⟩ := zbind hf
  refine z_aload_n C dX6_erase_0 0 rfl rfl ?_
  refine z_iload_n C dX6_erase_1 1 rfl rfl ?_
  refine z_iload_n C dX6_erase_2 2 rfl rfl ?_
  refine z_iload_n C dX6_erase_3 3 rfl rfl ?_
  refine z_callVX (kc' := 0) (ks' := 0) CX hf (fun _ _ e => MX6_checkMark (xl X) CX.2.2.2 (xD X) (xT X) (xlo X) hi e) (fun _ e => OX6_checkMark e) rfl cw_X6_159 yv_X6_checkMark dX6_erase_4 rfl (by decide) ⟨rfl, rfl⟩ (Nat.le_of_ble_eq_true rfl) (st := []) rfl (fun x2 h3 hf => ?_)
  refine z_aload_n C dX6_erase_7 0 rfl rfl ?_
  refine z_getR C fl_X6_45 dX6_erase_8 hf (fun x4 hf => ?_)
  refine z_aload_n C dX6_erase_11 0 rfl rfl ?_
  refine z_getR C fl_X6_32 dX6_erase_12 hf (fun x5 hf => ?_)
  obtain ⟨h7, g6, hf⟩ := zbind hf
  refine z_callV (kc' := 0) (ks' := 0) C (MX0_remember (xl X) (xD X) (xT X) (xlo X) hi g6) (OX0_remember g6) rfl cw_X6_213 yv_X0_remember dX6_erase_15 rfl (by decide) ⟨rfl, rfl⟩ (Nat.le_of_ble_eq_true rfl) (st := []) rfl ?_
  refine z_aload_n C dX6_erase_18 0 rfl rfl ?_
  refine z_getR C fl_X6_32 dX6_erase_19 hf (fun x8 hf => ?_)
  refine z_getR C fl_X6_166 dX6_erase_22 hf (fun x9 hf => ?_)
  refine z_iload_n C dX6_erase_25 1 rfl rfl ?_
  refine z_iload_n C dX6_erase_26 2 rfl rfl ?_
  refine z_iload_n C dX6_erase_27 3 rfl rfl ?_
  obtain ⟨x11, g10, hf⟩ := zbind hf
  refine z_callS (kc' := 0) (ks' := 0) C (MX6_placeOf (xl X) (xD X) (xT X) (xlo X) false hi g10) cw_X6_162 ys_X6_placeOf dX6_erase_28 rfl (by decide) ⟨rfl, rfl⟩ (Nat.le_of_ble_eq_true rfl) (st := [.ref x9]) rfl ?_
  obtain ⟨x13, g12, hf⟩ := zbind hf
  refine z_callV (kc' := 0) (ks' := 0) C (MX1_at (xl X) (xD X) (xT X) (xlo X) false hi g12) (OX1_at g12) rfl cw_X6_140 yv_X1_at dX6_erase_31 rfl (by decide) ⟨rfl, rfl⟩ (Nat.le_of_ble_eq_true rfl) (st := []) rfl ?_
  refine z_istore C dX6_erase_34 (by decide) (lv' := [(4, .int x13), (0, .ref a0), (1, .int p0), (2, .int p1), (3, .int p2)]) rfl ?_
  refine z_aload_n C dX6_erase_36 1 rfl rfl ?_
  refine z_getR C fl_X6_32 dX6_erase_37 hf (fun x14 hf => ?_)
  refine z_iload_n C dX6_erase_40 2 rfl rfl ?_
  refine z_iload_n C dX6_erase_41 3 rfl rfl ?_
  refine z_iload_n C dX6_erase_42 4 rfl rfl ?_
  obtain ⟨h16, g15, hf⟩ := zbind hf
  refine z_callV (kc' := 0) (ks' := 0) C (MX3_removeMark (xl X) (xD X) (xT X) (xlo X) false hi g15) (OX3_removeMark g15) rfl cw_X6_220 yv_X3_removeMark dX6_erase_43 rfl (by decide) ⟨rfl, rfl⟩ (Nat.le_of_ble_eq_true rfl) (st := []) rfl ?_
  refine z_iload C dX6_erase_46 0 rfl ?_
  exact z_ireturnX CX dX6_erase_48 (by cases hf; rfl)
theorem MX6_erase (l : Launch) (hl9 : l.stackTraces = false) (D : va_G) (T : zT) (lo : Nat) (hi : Nat) {h : zH} {a0 : Nat} {p0 : Int32} {p1 : Int32} {p2 : Int32} {x9 : Except String Int32} {h9 : zH} (hf : FX6_erase T a0 p0 p1 p2 h = some (x9, h9)) : zMX l yX6_erase (.code yX6_erase cX6_erase 5 (some .int) :: TW) ({ frames := 7, cells := 1, slots := 6, locals := 113 } : Room) D T lo [.ref a0, .int p0, .int p1, .int p2] hi h (zx cvI x9, h9) :=
  z_enterX hl9 (own := RX6) (nm := "erase") (lv := [(0, .ref a0), (1, .int p0), (2, .int p1), (3, .int p2)]) (by decide +kernel) rfl rfl (Nat.le_of_ble_eq_true rfl) rfl (fun _ _ _ _ _ _ _ _ C => BX6_erase C hf)
theorem OX6_erase {T : zT} {h : zH} {a0 : Nat} {p0 : Int32} {p1 : Int32} {p2 : Int32} {r9 : (Except String Int32 × zH)} (hf : FX6_erase T a0 p0 p1 p2 h = some r9) : ∃ fs, h a0 = some (.inr (6, fs)) := by
  obtain ⟨_, h1, _⟩ := zbind hf
  exact zo_obj h1
theorem dX6_decide_0 : decode cX6_decide 0 = .ok (.aload_n 0, 1) := by decide +kernel
theorem dX6_decide_1 : decode cX6_decide 1 = .ok (.iload_n 1, 1) := by decide +kernel
theorem dX6_decide_2 : decode cX6_decide 2 = .ok (.iload_n 2, 1) := by decide +kernel
theorem dX6_decide_3 : decode cX6_decide 3 = .ok (.iload_n 3, 1) := by decide +kernel
theorem dX6_decide_4 : decode cX6_decide 4 = .ok (.invokevirtual 159, 3) := by decide +kernel
theorem dX6_decide_7 : decode cX6_decide 7 = .ok (.iload 4, 2) := by decide +kernel
theorem dX6_decide_9 : decode cX6_decide 9 = .ok (.iconst 0, 1) := by decide +kernel
theorem dX6_decide_10 : decode cX6_decide 10 = .ok (.iconst 2, 1) := by decide +kernel
theorem dX6_decide_11 : decode cX6_decide 11 = .ok (.invokestatic 72, 3) := by decide +kernel
theorem dX6_decide_14 : decode cX6_decide 14 = .ok (.aload_n 0, 1) := by decide +kernel
theorem dX6_decide_15 : decode cX6_decide 15 = .ok (.getfield 32, 3) := by decide +kernel
theorem dX6_decide_18 : decode cX6_decide 18 = .ok (.iload_n 1, 1) := by decide +kernel
theorem dX6_decide_19 : decode cX6_decide 19 = .ok (.iload_n 2, 1) := by decide +kernel
theorem dX6_decide_20 : decode cX6_decide 20 = .ok (.iload_n 3, 1) := by decide +kernel
theorem dX6_decide_21 : decode cX6_decide 21 = .ok (.iload 4, 2) := by decide +kernel
theorem dX6_decide_23 : decode cX6_decide 23 = .ok (.invokevirtual 223, 3) := by decide +kernel
theorem dX6_decide_26 : decode cX6_decide 26 = .ok (.ifCond .eq 13, 3) := by decide +kernel
theorem dX6_decide_29 : decode cX6_decide 29 = .ok (.new 76, 3) := by decide +kernel
theorem dX6_decide_32 : decode cX6_decide 32 = .ok (.dup, 1) := by decide +kernel
theorem dX6_decide_33 : decode cX6_decide 33 = .ok (.ldc 227, 2) := by decide +kernel
theorem dX6_decide_35 : decode cX6_decide 35 = .ok (.invokespecial 80, 3) := by decide +kernel
theorem dX6_decide_38 : decode cX6_decide 38 = .ok (.athrow, 1) := by decide +kernel
theorem dX6_decide_39 : decode cX6_decide 39 = .ok (.aload_n 0, 1) := by decide +kernel
theorem dX6_decide_40 : decode cX6_decide 40 = .ok (.getfield 45, 3) := by decide +kernel
theorem dX6_decide_43 : decode cX6_decide 43 = .ok (.aload_n 0, 1) := by decide +kernel
theorem dX6_decide_44 : decode cX6_decide 44 = .ok (.getfield 32, 3) := by decide +kernel
theorem dX6_decide_47 : decode cX6_decide 47 = .ok (.invokevirtual 213, 3) := by decide +kernel
theorem dX6_decide_50 : decode cX6_decide 50 = .ok (.aload_n 0, 1) := by decide +kernel
theorem dX6_decide_51 : decode cX6_decide 51 = .ok (.getfield 32, 3) := by decide +kernel
theorem dX6_decide_54 : decode cX6_decide 54 = .ok (.iload_n 1, 1) := by decide +kernel
theorem dX6_decide_55 : decode cX6_decide 55 = .ok (.iload_n 2, 1) := by decide +kernel
theorem dX6_decide_56 : decode cX6_decide 56 = .ok (.iload_n 3, 1) := by decide +kernel
theorem dX6_decide_57 : decode cX6_decide 57 = .ok (.iload 4, 2) := by decide +kernel
theorem dX6_decide_59 : decode cX6_decide 59 = .ok (.invokevirtual 229, 3) := by decide +kernel
theorem dX6_decide_62 : decode cX6_decide 62 = .ok (.aload_n 0, 1) := by decide +kernel
theorem dX6_decide_63 : decode cX6_decide 63 = .ok (.getfield 32, 3) := by decide +kernel
theorem dX6_decide_66 : decode cX6_decide 66 = .ok (.invokevirtual 112, 3) := by decide +kernel
theorem dX6_decide_69 : decode cX6_decide 69 = .ok (.ireturn, 1) := by decide +kernel
def FX6_decide (T : zT) (a0 : Nat) (p0 : Int32) (p1 : Int32) (p2 : Int32) (p3 : Int32) (h : zH) : Option (Except String Int32 × zH) := (zo h a0 6).bind fun _ => zbx (FX6_checkMark T a0 p0 p1 p2 h) fun x2 h3 => zbx (FX6_checkArgument T p3 0 2 h3) fun x5 h6 => (zgr h6 a0 6 3).bind fun x7 => (FX3_otherHasDecision T x7 p0 p1 p2 p3 h6).bind fun x9 => if x9 = 0 then ((zgr h6 a0 6 6).bind fun x10 => (zgr h6 a0 6 3).bind fun x11 => (FX0_remember T x10 x11 h6).bind fun h13 => (zgr h13 a0 6 3).bind fun x14 => (FX3_putDecision T x14 p0 p1 p2 p3 h13).bind fun h16 => (zgr h16 a0 6 3).bind fun x17 => (FX3_countDoubtful T x17 h16).bind fun x19 => some (.ok x19, h16)) else (some (.error "java/lang/IllegalStateException", h6))
set_option maxHeartbeats 4000000 in
set_option maxRecDepth 100000 in
theorem BX6_decide {X : zX} (CX : zCX X cX6_decide 5 RX6 "decide" (some .int) 7 118) {hi : Nat} {h : zH} {a0 : Nat} {p0 : Int32} {p1 : Int32} {p2 : Int32} {p3 : Int32} {r9 : (Except String Int32 × zH)} (hf : FX6_decide (xT X) a0 p0 p1 p2 p3 h = some r9) : zW X 5 (zZX X (zx cvI r9.1, r9.2)) 3 18 false hi h 0 [(0, .ref a0), (1, .int p0), (2, .int p1), (3, .int p2), (4, .int p3)] [] := by
  have C := CX.1
  unfold FX6_decide at hf
  obtain ⟨_, _, hf⟩ := zbind hf
  refine z_aload_n C dX6_decide_0 0 rfl rfl ?_
  refine z_iload_n C dX6_decide_1 1 rfl rfl ?_
  refine z_iload_n C dX6_decide_2 2 rfl rfl ?_
  refine z_iload_n C dX6_decide_3 3 rfl rfl ?_
  refine z_callVX (kc' := 2) (ks' := 12) CX hf (fun _ _ e => MX6_checkMark (xl X) CX.2.2.2 (xD X) (xT X) (xlo X) hi e) (fun _ e => OX6_checkMark e) rfl cw_X6_159 yv_X6_checkMark dX6_decide_4 rfl (by decide) ⟨rfl, rfl⟩ (Nat.le_of_ble_eq_true rfl) (st := []) rfl (fun x2 h3 hf => ?_)
  refine z_iload C dX6_decide_7 4 rfl ?_
  refine z_iconst C (v := 0) dX6_decide_9 (by decide) ?_
  refine z_iconst C (v := 2) dX6_decide_10 (by decide) ?_
  refine z_callSX (kc' := 1) (ks' := 6) CX hf (fun _ _ e => MX6_checkArgument (xl X) CX.2.2.2 (xD X) (xT X) (xlo X) hi e) cw_X6_72 ys_X6_checkArgument dX6_decide_11 rfl (by decide) ⟨rfl, rfl⟩ (Nat.le_of_ble_eq_true rfl) (st := []) rfl (fun x5 h6 hf => ?_)
  refine z_aload_n C dX6_decide_14 0 rfl rfl ?_
  refine z_getR C fl_X6_32 dX6_decide_15 hf (fun x7 hf => ?_)
  refine z_iload_n C dX6_decide_18 1 rfl rfl ?_
  refine z_iload_n C dX6_decide_19 2 rfl rfl ?_
  refine z_iload_n C dX6_decide_20 3 rfl rfl ?_
  refine z_iload C dX6_decide_21 4 rfl ?_
  obtain ⟨x9, g8, hf⟩ := zbind hf
  refine z_callV (kc' := 1) (ks' := 6) C (MX3_otherHasDecision (xl X) (xD X) (xT X) (xlo X) false hi g8) (OX3_otherHasDecision g8) rfl cw_X6_223 yv_X3_otherHasDecision dX6_decide_23 rfl (by decide) ⟨rfl, rfl⟩ (Nat.le_of_ble_eq_true rfl) (st := []) rfl ?_
  refine z_if_eq (tgt := 39) C dX6_decide_26 (by decide) hf (fun hf => ?_) (fun hf => ?_)
  · refine z_aload_n C dX6_decide_39 0 rfl rfl ?_
    refine z_getR C fl_X6_45 dX6_decide_40 hf (fun x10 hf => ?_)
    refine z_aload_n C dX6_decide_43 0 rfl rfl ?_
    refine z_getR C fl_X6_32 dX6_decide_44 hf (fun x11 hf => ?_)
    obtain ⟨h13, g12, hf⟩ := zbind hf
    refine z_callV (kc' := 1) (ks' := 6) C (MX0_remember (xl X) (xD X) (xT X) (xlo X) hi g12) (OX0_remember g12) rfl cw_X6_213 yv_X0_remember dX6_decide_47 rfl (by decide) ⟨rfl, rfl⟩ (Nat.le_of_ble_eq_true rfl) (st := []) rfl ?_
    refine z_aload_n C dX6_decide_50 0 rfl rfl ?_
    refine z_getR C fl_X6_32 dX6_decide_51 hf (fun x14 hf => ?_)
    refine z_iload_n C dX6_decide_54 1 rfl rfl ?_
    refine z_iload_n C dX6_decide_55 2 rfl rfl ?_
    refine z_iload_n C dX6_decide_56 3 rfl rfl ?_
    refine z_iload C dX6_decide_57 4 rfl ?_
    obtain ⟨h16, g15, hf⟩ := zbind hf
    refine z_callV (kc' := 1) (ks' := 6) C (MX3_putDecision (xl X) (xD X) (xT X) (xlo X) false hi g15) (OX3_putDecision g15) rfl cw_X6_229 yv_X3_putDecision dX6_decide_59 rfl (by decide) ⟨rfl, rfl⟩ (Nat.le_of_ble_eq_true rfl) (st := []) rfl ?_
    refine z_aload_n C dX6_decide_62 0 rfl rfl ?_
    refine z_getR C fl_X6_32 dX6_decide_63 hf (fun x17 hf => ?_)
    obtain ⟨x19, g18, hf⟩ := zbind hf
    refine z_callV (kc' := 1) (ks' := 6) C (MX3_countDoubtful (xl X) (xD X) (xT X) (xlo X) false hi g18) (OX3_countDoubtful g18) rfl cw_X6_112 yv_X3_countDoubtful dX6_decide_66 rfl (by decide) ⟨rfl, rfl⟩ (Nat.le_of_ble_eq_true rfl) (st := []) rfl ?_
    exact z_ireturnX CX dX6_decide_69 (by cases hf; rfl)
  · exact z_throw CX ts_X6_227 dX6_decide_29 dX6_decide_32 dX6_decide_33 dX6_decide_35 dX6_decide_38 ⟨Nat.le_of_ble_eq_true rfl, Nat.le_of_ble_eq_true rfl⟩ ⟨by decide, by decide⟩ (by cases hf; rfl)
theorem MX6_decide (l : Launch) (hl9 : l.stackTraces = false) (D : va_G) (T : zT) (lo : Nat) (hi : Nat) {h : zH} {a0 : Nat} {p0 : Int32} {p1 : Int32} {p2 : Int32} {p3 : Int32} {x9 : Except String Int32} {h9 : zH} (hf : FX6_decide T a0 p0 p1 p2 p3 h = some (x9, h9)) : zMX l yX6_decide (.code yX6_decide cX6_decide 5 (some .int) :: TW) ({ frames := 7, cells := 3, slots := 18, locals := 118 } : Room) D T lo [.ref a0, .int p0, .int p1, .int p2, .int p3] hi h (zx cvI x9, h9) :=
  z_enterX hl9 (own := RX6) (nm := "decide") (lv := [(0, .ref a0), (1, .int p0), (2, .int p1), (3, .int p2), (4, .int p3)]) (by decide +kernel) rfl rfl (Nat.le_of_ble_eq_true rfl) rfl (fun _ _ _ _ _ _ _ _ C => BX6_decide C hf)
theorem OX6_decide {T : zT} {h : zH} {a0 : Nat} {p0 : Int32} {p1 : Int32} {p2 : Int32} {p3 : Int32} {r9 : (Except String Int32 × zH)} (hf : FX6_decide T a0 p0 p1 p2 p3 h = some r9) : ∃ fs, h a0 = some (.inr (6, fs)) := by
  obtain ⟨_, h1, _⟩ := zbind hf
  exact zo_obj h1
theorem dX6_setLetter_0 : decode cX6_setLetter 0 = .ok (.iload_n 1, 1) := by decide +kernel
theorem dX6_setLetter_1 : decode cX6_setLetter 1 = .ok (.invokestatic 134, 3) := by decide +kernel
theorem dX6_setLetter_4 : decode cX6_setLetter 4 = .ok (.iload_n 2, 1) := by decide +kernel
theorem dX6_setLetter_5 : decode cX6_setLetter 5 = .ok (.iconst 0, 1) := by decide +kernel
theorem dX6_setLetter_6 : decode cX6_setLetter 6 = .ok (.iconst 3, 1) := by decide +kernel
theorem dX6_setLetter_7 : decode cX6_setLetter 7 = .ok (.invokestatic 72, 3) := by decide +kernel
theorem dX6_setLetter_10 : decode cX6_setLetter 10 = .ok (.iload_n 3, 1) := by decide +kernel
theorem dX6_setLetter_11 : decode cX6_setLetter 11 = .ok (.iconst 0, 1) := by decide +kernel
theorem dX6_setLetter_12 : decode cX6_setLetter 12 = .ok (.bipush 8, 2) := by decide +kernel
theorem dX6_setLetter_14 : decode cX6_setLetter 14 = .ok (.invokestatic 72, 3) := by decide +kernel
theorem dX6_setLetter_17 : decode cX6_setLetter 17 = .ok (.iload 4, 2) := by decide +kernel
theorem dX6_setLetter_19 : decode cX6_setLetter 19 = .ok (.iconst 0, 1) := by decide +kernel
theorem dX6_setLetter_20 : decode cX6_setLetter 20 = .ok (.iconst 1, 1) := by decide +kernel
theorem dX6_setLetter_21 : decode cX6_setLetter 21 = .ok (.invokestatic 72, 3) := by decide +kernel
theorem dX6_setLetter_24 : decode cX6_setLetter 24 = .ok (.aload_n 0, 1) := by decide +kernel
theorem dX6_setLetter_25 : decode cX6_setLetter 25 = .ok (.getfield 45, 3) := by decide +kernel
theorem dX6_setLetter_28 : decode cX6_setLetter 28 = .ok (.aload_n 0, 1) := by decide +kernel
theorem dX6_setLetter_29 : decode cX6_setLetter 29 = .ok (.getfield 32, 3) := by decide +kernel
theorem dX6_setLetter_32 : decode cX6_setLetter 32 = .ok (.invokevirtual 213, 3) := by decide +kernel
theorem dX6_setLetter_35 : decode cX6_setLetter 35 = .ok (.aload_n 0, 1) := by decide +kernel
theorem dX6_setLetter_36 : decode cX6_setLetter 36 = .ok (.getfield 32, 3) := by decide +kernel
theorem dX6_setLetter_39 : decode cX6_setLetter 39 = .ok (.iload_n 1, 1) := by decide +kernel
theorem dX6_setLetter_40 : decode cX6_setLetter 40 = .ok (.iload_n 2, 1) := by decide +kernel
theorem dX6_setLetter_41 : decode cX6_setLetter 41 = .ok (.iload_n 3, 1) := by decide +kernel
theorem dX6_setLetter_42 : decode cX6_setLetter 42 = .ok (.iload 4, 2) := by decide +kernel
theorem dX6_setLetter_44 : decode cX6_setLetter 44 = .ok (.invokevirtual 233, 3) := by decide +kernel
theorem dX6_setLetter_47 : decode cX6_setLetter 47 = .ok (.aload_n 0, 1) := by decide +kernel
theorem dX6_setLetter_48 : decode cX6_setLetter 48 = .ok (.getfield 32, 3) := by decide +kernel
theorem dX6_setLetter_51 : decode cX6_setLetter 51 = .ok (.invokevirtual 112, 3) := by decide +kernel
theorem dX6_setLetter_54 : decode cX6_setLetter 54 = .ok (.ireturn, 1) := by decide +kernel
def FX6_setLetter (T : zT) (a0 : Nat) (p0 : Int32) (p1 : Int32) (p2 : Int32) (p3 : Int32) (h : zH) : Option (Except String Int32 × zH) := (zo h a0 6).bind fun _ => zbx (FX6_checkLetter T p0 h) fun x2 h3 => zbx (FX6_checkArgument T p1 0 3 h3) fun x5 h6 => zbx (FX6_checkArgument T p2 0 8 h6) fun x8 h9 => zbx (FX6_checkArgument T p3 0 1 h9) fun x11 h12 => (zgr h12 a0 6 6).bind fun x13 => (zgr h12 a0 6 3).bind fun x14 => (FX0_remember T x13 x14 h12).bind fun h16 => (zgr h16 a0 6 3).bind fun x17 => (FX3_putLetter T x17 p0 p1 p2 p3 h16).bind fun h19 => (zgr h19 a0 6 3).bind fun x20 => (FX3_countDoubtful T x20 h19).bind fun x22 => some (.ok x22, h19)
set_option maxHeartbeats 4000000 in
set_option maxRecDepth 100000 in
theorem BX6_setLetter {X : zX} (CX : zCX X cX6_setLetter 5 RX6 "setLetter" (some .int) 7 118) {hi : Nat} {h : zH} {a0 : Nat} {p0 : Int32} {p1 : Int32} {p2 : Int32} {p3 : Int32} {r9 : (Except String Int32 × zH)} (hf : FX6_setLetter (xT X) a0 p0 p1 p2 p3 h = some r9) : zW X 5 (zZX X (zx cvI r9.1, r9.2)) 4 24 false hi h 0 [(0, .ref a0), (1, .int p0), (2, .int p1), (3, .int p2), (4, .int p3)] [] := by
  have C := CX.1
  unfold FX6_setLetter at hf
  obtain ⟨_, _, hf⟩ := zbind hf
  refine z_iload_n C dX6_setLetter_0 1 rfl rfl ?_
  refine z_callSX (kc' := 3) (ks' := 18) CX hf (fun _ _ e => MX6_checkLetter (xl X) CX.2.2.2 (xD X) (xT X) (xlo X) hi e) cw_X6_134 ys_X6_checkLetter dX6_setLetter_1 rfl (by decide) ⟨rfl, rfl⟩ (Nat.le_of_ble_eq_true rfl) (st := []) rfl (fun x2 h3 hf => ?_)
  refine z_iload_n C dX6_setLetter_4 2 rfl rfl ?_
  refine z_iconst C (v := 0) dX6_setLetter_5 (by decide) ?_
  refine z_iconst C (v := 3) dX6_setLetter_6 (by decide) ?_
  refine z_callSX (kc' := 2) (ks' := 12) CX hf (fun _ _ e => MX6_checkArgument (xl X) CX.2.2.2 (xD X) (xT X) (xlo X) hi e) cw_X6_72 ys_X6_checkArgument dX6_setLetter_7 rfl (by decide) ⟨rfl, rfl⟩ (Nat.le_of_ble_eq_true rfl) (st := []) rfl (fun x5 h6 hf => ?_)
  refine z_iload_n C dX6_setLetter_10 3 rfl rfl ?_
  refine z_iconst C (v := 0) dX6_setLetter_11 (by decide) ?_
  refine z_bipush C (v := 8) dX6_setLetter_12 (by decide) ?_
  refine z_callSX (kc' := 1) (ks' := 6) CX hf (fun _ _ e => MX6_checkArgument (xl X) CX.2.2.2 (xD X) (xT X) (xlo X) hi e) cw_X6_72 ys_X6_checkArgument dX6_setLetter_14 rfl (by decide) ⟨rfl, rfl⟩ (Nat.le_of_ble_eq_true rfl) (st := []) rfl (fun x8 h9 hf => ?_)
  refine z_iload C dX6_setLetter_17 4 rfl ?_
  refine z_iconst C (v := 0) dX6_setLetter_19 (by decide) ?_
  refine z_iconst C (v := 1) dX6_setLetter_20 (by decide) ?_
  refine z_callSX (kc' := 0) (ks' := 0) CX hf (fun _ _ e => MX6_checkArgument (xl X) CX.2.2.2 (xD X) (xT X) (xlo X) hi e) cw_X6_72 ys_X6_checkArgument dX6_setLetter_21 rfl (by decide) ⟨rfl, rfl⟩ (Nat.le_of_ble_eq_true rfl) (st := []) rfl (fun x11 h12 hf => ?_)
  refine z_aload_n C dX6_setLetter_24 0 rfl rfl ?_
  refine z_getR C fl_X6_45 dX6_setLetter_25 hf (fun x13 hf => ?_)
  refine z_aload_n C dX6_setLetter_28 0 rfl rfl ?_
  refine z_getR C fl_X6_32 dX6_setLetter_29 hf (fun x14 hf => ?_)
  obtain ⟨h16, g15, hf⟩ := zbind hf
  refine z_callV (kc' := 0) (ks' := 0) C (MX0_remember (xl X) (xD X) (xT X) (xlo X) hi g15) (OX0_remember g15) rfl cw_X6_213 yv_X0_remember dX6_setLetter_32 rfl (by decide) ⟨rfl, rfl⟩ (Nat.le_of_ble_eq_true rfl) (st := []) rfl ?_
  refine z_aload_n C dX6_setLetter_35 0 rfl rfl ?_
  refine z_getR C fl_X6_32 dX6_setLetter_36 hf (fun x17 hf => ?_)
  refine z_iload_n C dX6_setLetter_39 1 rfl rfl ?_
  refine z_iload_n C dX6_setLetter_40 2 rfl rfl ?_
  refine z_iload_n C dX6_setLetter_41 3 rfl rfl ?_
  refine z_iload C dX6_setLetter_42 4 rfl ?_
  obtain ⟨h19, g18, hf⟩ := zbind hf
  refine z_callV (kc' := 0) (ks' := 0) C (MX3_putLetter (xl X) (xD X) (xT X) (xlo X) false hi g18) (OX3_putLetter g18) rfl cw_X6_233 yv_X3_putLetter dX6_setLetter_44 rfl (by decide) ⟨rfl, rfl⟩ (Nat.le_of_ble_eq_true rfl) (st := []) rfl ?_
  refine z_aload_n C dX6_setLetter_47 0 rfl rfl ?_
  refine z_getR C fl_X6_32 dX6_setLetter_48 hf (fun x20 hf => ?_)
  obtain ⟨x22, g21, hf⟩ := zbind hf
  refine z_callV (kc' := 0) (ks' := 0) C (MX3_countDoubtful (xl X) (xD X) (xT X) (xlo X) false hi g21) (OX3_countDoubtful g21) rfl cw_X6_112 yv_X3_countDoubtful dX6_setLetter_51 rfl (by decide) ⟨rfl, rfl⟩ (Nat.le_of_ble_eq_true rfl) (st := []) rfl ?_
  exact z_ireturnX CX dX6_setLetter_54 (by cases hf; rfl)
theorem MX6_setLetter (l : Launch) (hl9 : l.stackTraces = false) (D : va_G) (T : zT) (lo : Nat) (hi : Nat) {h : zH} {a0 : Nat} {p0 : Int32} {p1 : Int32} {p2 : Int32} {p3 : Int32} {x9 : Except String Int32} {h9 : zH} (hf : FX6_setLetter T a0 p0 p1 p2 p3 h = some (x9, h9)) : zMX l yX6_setLetter (.code yX6_setLetter cX6_setLetter 5 (some .int) :: TW) ({ frames := 7, cells := 4, slots := 24, locals := 118 } : Room) D T lo [.ref a0, .int p0, .int p1, .int p2, .int p3] hi h (zx cvI x9, h9) :=
  z_enterX hl9 (own := RX6) (nm := "setLetter") (lv := [(0, .ref a0), (1, .int p0), (2, .int p1), (3, .int p2), (4, .int p3)]) (by decide +kernel) rfl rfl (Nat.le_of_ble_eq_true rfl) rfl (fun _ _ _ _ _ _ _ _ C => BX6_setLetter C hf)
theorem OX6_setLetter {T : zT} {h : zH} {a0 : Nat} {p0 : Int32} {p1 : Int32} {p2 : Int32} {p3 : Int32} {r9 : (Except String Int32 × zH)} (hf : FX6_setLetter T a0 p0 p1 p2 p3 h = some r9) : ∃ fs, h a0 = some (.inr (6, fs)) := by
  obtain ⟨_, h1, _⟩ := zbind hf
  exact zo_obj h1
theorem dX6_setMargin_0 : decode cX6_setMargin 0 = .ok (.iload_n 1, 1) := by decide +kernel
theorem dX6_setMargin_1 : decode cX6_setMargin 1 = .ok (.iconst 0, 1) := by decide +kernel
theorem dX6_setMargin_2 : decode cX6_setMargin 2 = .ok (.bipush 9, 2) := by decide +kernel
theorem dX6_setMargin_4 : decode cX6_setMargin 4 = .ok (.invokestatic 72, 3) := by decide +kernel
theorem dX6_setMargin_7 : decode cX6_setMargin 7 = .ok (.aload_n 0, 1) := by decide +kernel
theorem dX6_setMargin_8 : decode cX6_setMargin 8 = .ok (.getfield 45, 3) := by decide +kernel
theorem dX6_setMargin_11 : decode cX6_setMargin 11 = .ok (.aload_n 0, 1) := by decide +kernel
theorem dX6_setMargin_12 : decode cX6_setMargin 12 = .ok (.getfield 32, 3) := by decide +kernel
theorem dX6_setMargin_15 : decode cX6_setMargin 15 = .ok (.invokevirtual 213, 3) := by decide +kernel
theorem dX6_setMargin_18 : decode cX6_setMargin 18 = .ok (.aload_n 0, 1) := by decide +kernel
theorem dX6_setMargin_19 : decode cX6_setMargin 19 = .ok (.getfield 32, 3) := by decide +kernel
theorem dX6_setMargin_22 : decode cX6_setMargin 22 = .ok (.getfield 118, 3) := by decide +kernel
theorem dX6_setMargin_25 : decode cX6_setMargin 25 = .ok (.istore_n 2, 1) := by decide +kernel
theorem dX6_setMargin_26 : decode cX6_setMargin 26 = .ok (.aload_n 0, 1) := by decide +kernel
theorem dX6_setMargin_27 : decode cX6_setMargin 27 = .ok (.getfield 32, 3) := by decide +kernel
theorem dX6_setMargin_30 : decode cX6_setMargin 30 = .ok (.iload_n 1, 1) := by decide +kernel
theorem dX6_setMargin_31 : decode cX6_setMargin 31 = .ok (.putfield 118, 3) := by decide +kernel
theorem dX6_setMargin_34 : decode cX6_setMargin 34 = .ok (.iload_n 2, 1) := by decide +kernel
theorem dX6_setMargin_35 : decode cX6_setMargin 35 = .ok (.ireturn, 1) := by decide +kernel
def FX6_setMargin (T : zT) (a0 : Nat) (p0 : Int32) (h : zH) : Option (Except String Int32 × zH) := (zo h a0 6).bind fun _ => zbx (FX6_checkArgument T p0 0 9 h) fun x2 h3 => (zgr h3 a0 6 6).bind fun x4 => (zgr h3 a0 6 3).bind fun x5 => (FX0_remember T x4 x5 h3).bind fun h7 => (zgr h7 a0 6 3).bind fun x8 => (zgi h7 x8 3 2).bind fun x9 => (zgr h7 a0 6 3).bind fun x10 => (zpv h7 x10 3 2 (.int p0)).bind fun h11 => some (.ok x9, h11)
set_option maxHeartbeats 4000000 in
set_option maxRecDepth 100000 in
theorem BX6_setMargin {X : zX} (CX : zCX X cX6_setMargin 3 RX6 "setMargin" (some .int) 7 112) {hi : Nat} {h : zH} {a0 : Nat} {p0 : Int32} {r9 : (Except String Int32 × zH)} (hf : FX6_setMargin (xT X) a0 p0 h = some r9) : zW X 3 (zZX X (zx cvI r9.1, r9.2)) 1 6 false hi h 0 [(0, .ref a0), (1, .int p0)] [] := by
  have C := CX.1
  unfold FX6_setMargin at hf
  obtain ⟨_, _, hf⟩ := zbind hf
  refine z_iload_n C dX6_setMargin_0 1 rfl rfl ?_
  refine z_iconst C (v := 0) dX6_setMargin_1 (by decide) ?_
  refine z_bipush C (v := 9) dX6_setMargin_2 (by decide) ?_
  refine z_callSX (kc' := 0) (ks' := 0) CX hf (fun _ _ e => MX6_checkArgument (xl X) CX.2.2.2 (xD X) (xT X) (xlo X) hi e) cw_X6_72 ys_X6_checkArgument dX6_setMargin_4 rfl (by decide) ⟨rfl, rfl⟩ (Nat.le_of_ble_eq_true rfl) (st := []) rfl (fun x2 h3 hf => ?_)
  refine z_aload_n C dX6_setMargin_7 0 rfl rfl ?_
  refine z_getR C fl_X6_45 dX6_setMargin_8 hf (fun x4 hf => ?_)
  refine z_aload_n C dX6_setMargin_11 0 rfl rfl ?_
  refine z_getR C fl_X6_32 dX6_setMargin_12 hf (fun x5 hf => ?_)
  obtain ⟨h7, g6, hf⟩ := zbind hf
  refine z_callV (kc' := 0) (ks' := 0) C (MX0_remember (xl X) (xD X) (xT X) (xlo X) hi g6) (OX0_remember g6) rfl cw_X6_213 yv_X0_remember dX6_setMargin_15 rfl (by decide) ⟨rfl, rfl⟩ (Nat.le_of_ble_eq_true rfl) (st := []) rfl ?_
  refine z_aload_n C dX6_setMargin_18 0 rfl rfl ?_
  refine z_getR C fl_X6_32 dX6_setMargin_19 hf (fun x8 hf => ?_)
  refine z_getI C fl_X6_118 dX6_setMargin_22 hf (fun x9 hf => ?_)
  refine z_istore_n C dX6_setMargin_25 rfl (by decide) (lv' := [(2, .int x9), (0, .ref a0), (1, .int p0)]) rfl ?_
  refine z_aload_n C dX6_setMargin_26 1 rfl rfl ?_
  refine z_getR C fl_X6_32 dX6_setMargin_27 hf (fun x10 hf => ?_)
  refine z_iload_n C dX6_setMargin_30 2 rfl rfl ?_
  refine z_put C fl_X6_118 dX6_setMargin_31 rfl rfl hf (fun h11 hf => ?_)
  refine z_iload_n C dX6_setMargin_34 0 rfl rfl ?_
  exact z_ireturnX CX dX6_setMargin_35 (by cases hf; rfl)
theorem MX6_setMargin (l : Launch) (hl9 : l.stackTraces = false) (D : va_G) (T : zT) (lo : Nat) (hi : Nat) {h : zH} {a0 : Nat} {p0 : Int32} {x9 : Except String Int32} {h9 : zH} (hf : FX6_setMargin T a0 p0 h = some (x9, h9)) : zMX l yX6_setMargin (.code yX6_setMargin cX6_setMargin 3 (some .int) :: TW) ({ frames := 7, cells := 1, slots := 6, locals := 112 } : Room) D T lo [.ref a0, .int p0] hi h (zx cvI x9, h9) :=
  z_enterX hl9 (own := RX6) (nm := "setMargin") (lv := [(0, .ref a0), (1, .int p0)]) (by decide +kernel) rfl rfl (Nat.le_of_ble_eq_true rfl) rfl (fun _ _ _ _ _ _ _ _ C => BX6_setMargin C hf)
theorem OX6_setMargin {T : zT} {h : zH} {a0 : Nat} {p0 : Int32} {r9 : (Except String Int32 × zH)} (hf : FX6_setMargin T a0 p0 h = some r9) : ∃ fs, h a0 = some (.inr (6, fs)) := by
  obtain ⟨_, h1, _⟩ := zbind hf
  exact zo_obj h1
theorem dX6_setGap_0 : decode cX6_setGap 0 = .ok (.iload_n 1, 1) := by decide +kernel
theorem dX6_setGap_1 : decode cX6_setGap 1 = .ok (.iconst 1, 1) := by decide +kernel
theorem dX6_setGap_2 : decode cX6_setGap 2 = .ok (.iconst 3, 1) := by decide +kernel
theorem dX6_setGap_3 : decode cX6_setGap 3 = .ok (.invokestatic 72, 3) := by decide +kernel
theorem dX6_setGap_6 : decode cX6_setGap 6 = .ok (.aload_n 0, 1) := by decide +kernel
theorem dX6_setGap_7 : decode cX6_setGap 7 = .ok (.getfield 45, 3) := by decide +kernel
theorem dX6_setGap_10 : decode cX6_setGap 10 = .ok (.aload_n 0, 1) := by decide +kernel
theorem dX6_setGap_11 : decode cX6_setGap 11 = .ok (.getfield 32, 3) := by decide +kernel
theorem dX6_setGap_14 : decode cX6_setGap 14 = .ok (.invokevirtual 213, 3) := by decide +kernel
theorem dX6_setGap_17 : decode cX6_setGap 17 = .ok (.aload_n 0, 1) := by decide +kernel
theorem dX6_setGap_18 : decode cX6_setGap 18 = .ok (.getfield 32, 3) := by decide +kernel
theorem dX6_setGap_21 : decode cX6_setGap 21 = .ok (.getfield 121, 3) := by decide +kernel
theorem dX6_setGap_24 : decode cX6_setGap 24 = .ok (.istore_n 2, 1) := by decide +kernel
theorem dX6_setGap_25 : decode cX6_setGap 25 = .ok (.aload_n 0, 1) := by decide +kernel
theorem dX6_setGap_26 : decode cX6_setGap 26 = .ok (.getfield 32, 3) := by decide +kernel
theorem dX6_setGap_29 : decode cX6_setGap 29 = .ok (.iload_n 1, 1) := by decide +kernel
theorem dX6_setGap_30 : decode cX6_setGap 30 = .ok (.putfield 121, 3) := by decide +kernel
theorem dX6_setGap_33 : decode cX6_setGap 33 = .ok (.iload_n 2, 1) := by decide +kernel
theorem dX6_setGap_34 : decode cX6_setGap 34 = .ok (.ireturn, 1) := by decide +kernel
def FX6_setGap (T : zT) (a0 : Nat) (p0 : Int32) (h : zH) : Option (Except String Int32 × zH) := (zo h a0 6).bind fun _ => zbx (FX6_checkArgument T p0 1 3 h) fun x2 h3 => (zgr h3 a0 6 6).bind fun x4 => (zgr h3 a0 6 3).bind fun x5 => (FX0_remember T x4 x5 h3).bind fun h7 => (zgr h7 a0 6 3).bind fun x8 => (zgi h7 x8 3 3).bind fun x9 => (zgr h7 a0 6 3).bind fun x10 => (zpv h7 x10 3 3 (.int p0)).bind fun h11 => some (.ok x9, h11)
set_option maxHeartbeats 4000000 in
set_option maxRecDepth 100000 in
theorem BX6_setGap {X : zX} (CX : zCX X cX6_setGap 3 RX6 "setGap" (some .int) 7 112) {hi : Nat} {h : zH} {a0 : Nat} {p0 : Int32} {r9 : (Except String Int32 × zH)} (hf : FX6_setGap (xT X) a0 p0 h = some r9) : zW X 3 (zZX X (zx cvI r9.1, r9.2)) 1 6 false hi h 0 [(0, .ref a0), (1, .int p0)] [] := by
  have C := CX.1
  unfold FX6_setGap at hf
  obtain ⟨_, _, hf⟩ := zbind hf
  refine z_iload_n C dX6_setGap_0 1 rfl rfl ?_
  refine z_iconst C (v := 1) dX6_setGap_1 (by decide) ?_
  refine z_iconst C (v := 3) dX6_setGap_2 (by decide) ?_
  refine z_callSX (kc' := 0) (ks' := 0) CX hf (fun _ _ e => MX6_checkArgument (xl X) CX.2.2.2 (xD X) (xT X) (xlo X) hi e) cw_X6_72 ys_X6_checkArgument dX6_setGap_3 rfl (by decide) ⟨rfl, rfl⟩ (Nat.le_of_ble_eq_true rfl) (st := []) rfl (fun x2 h3 hf => ?_)
  refine z_aload_n C dX6_setGap_6 0 rfl rfl ?_
  refine z_getR C fl_X6_45 dX6_setGap_7 hf (fun x4 hf => ?_)
  refine z_aload_n C dX6_setGap_10 0 rfl rfl ?_
  refine z_getR C fl_X6_32 dX6_setGap_11 hf (fun x5 hf => ?_)
  obtain ⟨h7, g6, hf⟩ := zbind hf
  refine z_callV (kc' := 0) (ks' := 0) C (MX0_remember (xl X) (xD X) (xT X) (xlo X) hi g6) (OX0_remember g6) rfl cw_X6_213 yv_X0_remember dX6_setGap_14 rfl (by decide) ⟨rfl, rfl⟩ (Nat.le_of_ble_eq_true rfl) (st := []) rfl ?_
  refine z_aload_n C dX6_setGap_17 0 rfl rfl ?_
  refine z_getR C fl_X6_32 dX6_setGap_18 hf (fun x8 hf => ?_)
  refine z_getI C fl_X6_121 dX6_setGap_21 hf (fun x9 hf => ?_)
  refine z_istore_n C dX6_setGap_24 rfl (by decide) (lv' := [(2, .int x9), (0, .ref a0), (1, .int p0)]) rfl ?_
  refine z_aload_n C dX6_setGap_25 1 rfl rfl ?_
  refine z_getR C fl_X6_32 dX6_setGap_26 hf (fun x10 hf => ?_)
  refine z_iload_n C dX6_setGap_29 2 rfl rfl ?_
  refine z_put C fl_X6_121 dX6_setGap_30 rfl rfl hf (fun h11 hf => ?_)
  refine z_iload_n C dX6_setGap_33 0 rfl rfl ?_
  exact z_ireturnX CX dX6_setGap_34 (by cases hf; rfl)
theorem MX6_setGap (l : Launch) (hl9 : l.stackTraces = false) (D : va_G) (T : zT) (lo : Nat) (hi : Nat) {h : zH} {a0 : Nat} {p0 : Int32} {x9 : Except String Int32} {h9 : zH} (hf : FX6_setGap T a0 p0 h = some (x9, h9)) : zMX l yX6_setGap (.code yX6_setGap cX6_setGap 3 (some .int) :: TW) ({ frames := 7, cells := 1, slots := 6, locals := 112 } : Room) D T lo [.ref a0, .int p0] hi h (zx cvI x9, h9) :=
  z_enterX hl9 (own := RX6) (nm := "setGap") (lv := [(0, .ref a0), (1, .int p0)]) (by decide +kernel) rfl rfl (Nat.le_of_ble_eq_true rfl) rfl (fun _ _ _ _ _ _ _ _ C => BX6_setGap C hf)
theorem OX6_setGap {T : zT} {h : zH} {a0 : Nat} {p0 : Int32} {r9 : (Except String Int32 × zH)} (hf : FX6_setGap T a0 p0 h = some r9) : ∃ fs, h a0 = some (.inr (6, fs)) := by
  obtain ⟨_, h1, _⟩ := zbind hf
  exact zo_obj h1
