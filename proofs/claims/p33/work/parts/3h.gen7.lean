theorem mw_25 : (Jvm.Cond.initialized "CrossedSheetLaw") ∈ TW := TWm 25 (by decide +kernel) (by decide +kernel)
theorem mw_471 : (Jvm.Cond.constant "CrossedSheetLaw" (172 : Nat) (15518099 : Int32)) ∈ TW := TWm 471 (by decide +kernel) (by decide +kernel)
theorem mw_472 : (Jvm.Cond.constant "CrossedSheetLaw" (173 : Nat) (2147483647 : Int32)) ∈ TW := TWm 472 (by decide +kernel) (by decide +kernel)
theorem mw_480 : (Jvm.Cond.methodLink "CrossedSheetLaw" (174 : Nat) ({ cls := "CrossedSheetLaw", name := "call", desc := "(LCrossedSheet;IIIII)I" } : Jvm.MethodName)) ∈ TW := TWm 480 (by decide +kernel) (by decide +kernel)
theorem mw_481 : (Jvm.Cond.static ({ cls := "CrossedSheetLaw", name := "call", desc := "(LCrossedSheet;IIIII)I" } : Jvm.MethodName)) ∈ TW := TWm 481 (by decide +kernel) (by decide +kernel)
theorem mw_482 : (Jvm.Cond.code ({ cls := "CrossedSheetLaw", name := "call", desc := "(LCrossedSheet;IIIII)I" } : Jvm.MethodName) method_27_code (6 : Nat) (Option.some Jvm.ClassFile.FieldType.int)) ∈ TW := TWm 482 (by decide +kernel) (by decide +kernel)
theorem mw_483 : (Jvm.Cond.methodLink "CrossedSheetLaw" (102 : Nat) ({ cls := "CrossedSheetLaw", name := "tryAppend", desc := "(LCrossedSheet;I)I" } : Jvm.MethodName)) ∈ TW := TWm 483 (by decide +kernel) (by decide +kernel)
theorem mw_484 : (Jvm.Cond.static ({ cls := "CrossedSheetLaw", name := "tryAppend", desc := "(LCrossedSheet;I)I" } : Jvm.MethodName)) ∈ TW := TWm 484 (by decide +kernel) (by decide +kernel)
theorem mw_485 : (Jvm.Cond.codeWith ({ cls := "CrossedSheetLaw", name := "tryAppend", desc := "(LCrossedSheet;I)I" } : Jvm.MethodName) method_6_code (3 : Nat) (Option.some Jvm.ClassFile.FieldType.int) [((0 : Nat), (5 : Nat), (6 : Nat), (16 : Nat)), ((0 : Nat), (5 : Nat), (10 : Nat), (19 : Nat))]) ∈ TW := TWm 485 (by decide +kernel) (by decide +kernel)
theorem mw_509 : (Jvm.Cond.methodLink "CrossedSheetLaw" (108 : Nat) ({ cls := "CrossedSheetLaw", name := "tryLoad", desc := "(LCrossedSheet;)I" } : Jvm.MethodName)) ∈ TW := TWm 509 (by decide +kernel) (by decide +kernel)
theorem mw_510 : (Jvm.Cond.static ({ cls := "CrossedSheetLaw", name := "tryLoad", desc := "(LCrossedSheet;)I" } : Jvm.MethodName)) ∈ TW := TWm 510 (by decide +kernel) (by decide +kernel)
theorem mw_511 : (Jvm.Cond.codeWith ({ cls := "CrossedSheetLaw", name := "tryLoad", desc := "(LCrossedSheet;)I" } : Jvm.MethodName) method_7_code (2 : Nat) (Option.some Jvm.ClassFile.FieldType.int) [((0 : Nat), (4 : Nat), (5 : Nat), (19 : Nat))]) ∈ TW := TWm 511 (by decide +kernel) (by decide +kernel)
theorem mw_582 : (Jvm.Cond.methodLink "CrossedSheetLaw" (112 : Nat) ({ cls := "CrossedSheetLaw", name := "tryAbout", desc := "(LCrossedSheet;I)I" } : Jvm.MethodName)) ∈ TW := TWm 582 (by decide +kernel) (by decide +kernel)
theorem mw_583 : (Jvm.Cond.static ({ cls := "CrossedSheetLaw", name := "tryAbout", desc := "(LCrossedSheet;I)I" } : Jvm.MethodName)) ∈ TW := TWm 583 (by decide +kernel) (by decide +kernel)
theorem mw_584 : (Jvm.Cond.codeWith ({ cls := "CrossedSheetLaw", name := "tryAbout", desc := "(LCrossedSheet;I)I" } : Jvm.MethodName) method_8_code (3 : Nat) (Option.some Jvm.ClassFile.FieldType.int) [((0 : Nat), (5 : Nat), (6 : Nat), (16 : Nat))]) ∈ TW := TWm 584 (by decide +kernel) (by decide +kernel)
theorem mw_601 : (Jvm.Cond.methodLink "CrossedSheetLaw" (115 : Nat) ({ cls := "CrossedSheetLaw", name := "tryLetter", desc := "(LCrossedSheet;II)I" } : Jvm.MethodName)) ∈ TW := TWm 601 (by decide +kernel) (by decide +kernel)
theorem mw_602 : (Jvm.Cond.static ({ cls := "CrossedSheetLaw", name := "tryLetter", desc := "(LCrossedSheet;II)I" } : Jvm.MethodName)) ∈ TW := TWm 602 (by decide +kernel) (by decide +kernel)
theorem mw_603 : (Jvm.Cond.codeWith ({ cls := "CrossedSheetLaw", name := "tryLetter", desc := "(LCrossedSheet;II)I" } : Jvm.MethodName) method_9_code (4 : Nat) (Option.some Jvm.ClassFile.FieldType.int) [((0 : Nat), (6 : Nat), (7 : Nat), (13 : Nat)), ((0 : Nat), (6 : Nat), (11 : Nat), (16 : Nat))]) ∈ TW := TWm 603 (by decide +kernel) (by decide +kernel)
theorem mw_645 : (Jvm.Cond.methodLink "CrossedSheetLaw" (119 : Nat) ({ cls := "CrossedSheetLaw", name := "tryMarks", desc := "(LCrossedSheet;II)I" } : Jvm.MethodName)) ∈ TW := TWm 645 (by decide +kernel) (by decide +kernel)
theorem mw_646 : (Jvm.Cond.static ({ cls := "CrossedSheetLaw", name := "tryMarks", desc := "(LCrossedSheet;II)I" } : Jvm.MethodName)) ∈ TW := TWm 646 (by decide +kernel) (by decide +kernel)
theorem mw_647 : (Jvm.Cond.codeWith ({ cls := "CrossedSheetLaw", name := "tryMarks", desc := "(LCrossedSheet;II)I" } : Jvm.MethodName) method_10_code (4 : Nat) (Option.some Jvm.ClassFile.FieldType.int) [((0 : Nat), (6 : Nat), (7 : Nat), (13 : Nat))]) ∈ TW := TWm 647 (by decide +kernel) (by decide +kernel)
theorem mw_659 : (Jvm.Cond.methodLink "CrossedSheetLaw" (122 : Nat) ({ cls := "CrossedSheetLaw", name := "tryMark", desc := "(LCrossedSheet;IIII)I" } : Jvm.MethodName)) ∈ TW := TWm 659 (by decide +kernel) (by decide +kernel)
theorem mw_660 : (Jvm.Cond.static ({ cls := "CrossedSheetLaw", name := "tryMark", desc := "(LCrossedSheet;IIII)I" } : Jvm.MethodName)) ∈ TW := TWm 660 (by decide +kernel) (by decide +kernel)
theorem mw_661 : (Jvm.Cond.codeWith ({ cls := "CrossedSheetLaw", name := "tryMark", desc := "(LCrossedSheet;IIII)I" } : Jvm.MethodName) method_11_code (6 : Nat) (Option.some Jvm.ClassFile.FieldType.int) [((0 : Nat), (9 : Nat), (10 : Nat), (13 : Nat)), ((0 : Nat), (9 : Nat), (15 : Nat), (16 : Nat))]) ∈ TW := TWm 661 (by decide +kernel) (by decide +kernel)
theorem mw_682 : (Jvm.Cond.methodLink "CrossedSheetLaw" (126 : Nat) ({ cls := "CrossedSheetLaw", name := "tryLength", desc := "(LCrossedSheet;II)I" } : Jvm.MethodName)) ∈ TW := TWm 682 (by decide +kernel) (by decide +kernel)
theorem mw_683 : (Jvm.Cond.static ({ cls := "CrossedSheetLaw", name := "tryLength", desc := "(LCrossedSheet;II)I" } : Jvm.MethodName)) ∈ TW := TWm 683 (by decide +kernel) (by decide +kernel)
theorem mw_684 : (Jvm.Cond.codeWith ({ cls := "CrossedSheetLaw", name := "tryLength", desc := "(LCrossedSheet;II)I" } : Jvm.MethodName) method_12_code (4 : Nat) (Option.some Jvm.ClassFile.FieldType.int) [((0 : Nat), (6 : Nat), (7 : Nat), (13 : Nat))]) ∈ TW := TWm 684 (by decide +kernel) (by decide +kernel)
theorem mw_696 : (Jvm.Cond.methodLink "CrossedSheetLaw" (129 : Nat) ({ cls := "CrossedSheetLaw", name := "trySign", desc := "(LCrossedSheet;III)I" } : Jvm.MethodName)) ∈ TW := TWm 696 (by decide +kernel) (by decide +kernel)
theorem mw_697 : (Jvm.Cond.static ({ cls := "CrossedSheetLaw", name := "trySign", desc := "(LCrossedSheet;III)I" } : Jvm.MethodName)) ∈ TW := TWm 697 (by decide +kernel) (by decide +kernel)
theorem mw_698 : (Jvm.Cond.codeWith ({ cls := "CrossedSheetLaw", name := "trySign", desc := "(LCrossedSheet;III)I" } : Jvm.MethodName) method_13_code (5 : Nat) (Option.some Jvm.ClassFile.FieldType.int) [((0 : Nat), (7 : Nat), (8 : Nat), (13 : Nat)), ((0 : Nat), (7 : Nat), (13 : Nat), (16 : Nat))]) ∈ TW := TWm 698 (by decide +kernel) (by decide +kernel)
theorem mw_708 : (Jvm.Cond.methodLink "CrossedSheetLaw" (133 : Nat) ({ cls := "CrossedSheetLaw", name := "tryAt", desc := "(LCrossedSheet;III)I" } : Jvm.MethodName)) ∈ TW := TWm 708 (by decide +kernel) (by decide +kernel)
theorem mw_709 : (Jvm.Cond.static ({ cls := "CrossedSheetLaw", name := "tryAt", desc := "(LCrossedSheet;III)I" } : Jvm.MethodName)) ∈ TW := TWm 709 (by decide +kernel) (by decide +kernel)
theorem mw_710 : (Jvm.Cond.codeWith ({ cls := "CrossedSheetLaw", name := "tryAt", desc := "(LCrossedSheet;III)I" } : Jvm.MethodName) method_14_code (5 : Nat) (Option.some Jvm.ClassFile.FieldType.int) [((0 : Nat), (7 : Nat), (8 : Nat), (13 : Nat))]) ∈ TW := TWm 710 (by decide +kernel) (by decide +kernel)
theorem mw_715 : (Jvm.Cond.methodLink "CrossedSheetLaw" (136 : Nat) ({ cls := "CrossedSheetLaw", name := "tryErase", desc := "(LCrossedSheet;III)I" } : Jvm.MethodName)) ∈ TW := TWm 715 (by decide +kernel) (by decide +kernel)
theorem mw_716 : (Jvm.Cond.static ({ cls := "CrossedSheetLaw", name := "tryErase", desc := "(LCrossedSheet;III)I" } : Jvm.MethodName)) ∈ TW := TWm 716 (by decide +kernel) (by decide +kernel)
theorem mw_717 : (Jvm.Cond.codeWith ({ cls := "CrossedSheetLaw", name := "tryErase", desc := "(LCrossedSheet;III)I" } : Jvm.MethodName) method_15_code (5 : Nat) (Option.some Jvm.ClassFile.FieldType.int) [((0 : Nat), (7 : Nat), (8 : Nat), (13 : Nat))]) ∈ TW := TWm 717 (by decide +kernel) (by decide +kernel)
theorem mw_739 : (Jvm.Cond.methodLink "CrossedSheetLaw" (139 : Nat) ({ cls := "CrossedSheetLaw", name := "tryDecide", desc := "(LCrossedSheet;IIII)I" } : Jvm.MethodName)) ∈ TW := TWm 739 (by decide +kernel) (by decide +kernel)
theorem mw_740 : (Jvm.Cond.static ({ cls := "CrossedSheetLaw", name := "tryDecide", desc := "(LCrossedSheet;IIII)I" } : Jvm.MethodName)) ∈ TW := TWm 740 (by decide +kernel) (by decide +kernel)
theorem mw_741 : (Jvm.Cond.codeWith ({ cls := "CrossedSheetLaw", name := "tryDecide", desc := "(LCrossedSheet;IIII)I" } : Jvm.MethodName) method_16_code (6 : Nat) (Option.some Jvm.ClassFile.FieldType.int) [((0 : Nat), (9 : Nat), (10 : Nat), (13 : Nat)), ((0 : Nat), (9 : Nat), (15 : Nat), (16 : Nat)), ((0 : Nat), (9 : Nat), (20 : Nat), (19 : Nat))]) ∈ TW := TWm 741 (by decide +kernel) (by decide +kernel)
theorem mw_759 : (Jvm.Cond.methodLink "CrossedSheetLaw" (142 : Nat) ({ cls := "CrossedSheetLaw", name := "tryPen", desc := "(LCrossedSheet;IIII)I" } : Jvm.MethodName)) ∈ TW := TWm 759 (by decide +kernel) (by decide +kernel)
theorem mw_760 : (Jvm.Cond.static ({ cls := "CrossedSheetLaw", name := "tryPen", desc := "(LCrossedSheet;IIII)I" } : Jvm.MethodName)) ∈ TW := TWm 760 (by decide +kernel) (by decide +kernel)
theorem mw_761 : (Jvm.Cond.codeWith ({ cls := "CrossedSheetLaw", name := "tryPen", desc := "(LCrossedSheet;IIII)I" } : Jvm.MethodName) method_17_code (6 : Nat) (Option.some Jvm.ClassFile.FieldType.int) [((0 : Nat), (9 : Nat), (10 : Nat), (13 : Nat)), ((0 : Nat), (9 : Nat), (15 : Nat), (16 : Nat))]) ∈ TW := TWm 761 (by decide +kernel) (by decide +kernel)
theorem mw_767 : (Jvm.Cond.methodLink "CrossedSheetLaw" (145 : Nat) ({ cls := "CrossedSheetLaw", name := "tryMargin", desc := "(LCrossedSheet;I)I" } : Jvm.MethodName)) ∈ TW := TWm 767 (by decide +kernel) (by decide +kernel)
theorem mw_768 : (Jvm.Cond.static ({ cls := "CrossedSheetLaw", name := "tryMargin", desc := "(LCrossedSheet;I)I" } : Jvm.MethodName)) ∈ TW := TWm 768 (by decide +kernel) (by decide +kernel)
theorem mw_769 : (Jvm.Cond.codeWith ({ cls := "CrossedSheetLaw", name := "tryMargin", desc := "(LCrossedSheet;I)I" } : Jvm.MethodName) method_18_code (3 : Nat) (Option.some Jvm.ClassFile.FieldType.int) [((0 : Nat), (5 : Nat), (6 : Nat), (16 : Nat))]) ∈ TW := TWm 769 (by decide +kernel) (by decide +kernel)
theorem mw_774 : (Jvm.Cond.methodLink "CrossedSheetLaw" (148 : Nat) ({ cls := "CrossedSheetLaw", name := "tryGap", desc := "(LCrossedSheet;I)I" } : Jvm.MethodName)) ∈ TW := TWm 774 (by decide +kernel) (by decide +kernel)
theorem mw_775 : (Jvm.Cond.static ({ cls := "CrossedSheetLaw", name := "tryGap", desc := "(LCrossedSheet;I)I" } : Jvm.MethodName)) ∈ TW := TWm 775 (by decide +kernel) (by decide +kernel)
theorem mw_776 : (Jvm.Cond.codeWith ({ cls := "CrossedSheetLaw", name := "tryGap", desc := "(LCrossedSheet;I)I" } : Jvm.MethodName) method_19_code (3 : Nat) (Option.some Jvm.ClassFile.FieldType.int) [((0 : Nat), (5 : Nat), (6 : Nat), (16 : Nat))]) ∈ TW := TWm 776 (by decide +kernel) (by decide +kernel)
theorem mw_781 : (Jvm.Cond.methodLink "CrossedSheetLaw" (151 : Nat) ({ cls := "CrossedSheetLaw", name := "tryUndo", desc := "(LCrossedSheet;)I" } : Jvm.MethodName)) ∈ TW := TWm 781 (by decide +kernel) (by decide +kernel)
theorem mw_782 : (Jvm.Cond.static ({ cls := "CrossedSheetLaw", name := "tryUndo", desc := "(LCrossedSheet;)I" } : Jvm.MethodName)) ∈ TW := TWm 782 (by decide +kernel) (by decide +kernel)
theorem mw_783 : (Jvm.Cond.codeWith ({ cls := "CrossedSheetLaw", name := "tryUndo", desc := "(LCrossedSheet;)I" } : Jvm.MethodName) method_20_code (2 : Nat) (Option.some Jvm.ClassFile.FieldType.int) [((0 : Nat), (4 : Nat), (5 : Nat), (19 : Nat))]) ∈ TW := TWm 783 (by decide +kernel) (by decide +kernel)
theorem mw_802 : (Jvm.Cond.methodLink "CrossedSheetLaw" (154 : Nat) ({ cls := "CrossedSheetLaw", name := "tryCount", desc := "(LCrossedSheet;II)I" } : Jvm.MethodName)) ∈ TW := TWm 802 (by decide +kernel) (by decide +kernel)
theorem mw_803 : (Jvm.Cond.static ({ cls := "CrossedSheetLaw", name := "tryCount", desc := "(LCrossedSheet;II)I" } : Jvm.MethodName)) ∈ TW := TWm 803 (by decide +kernel) (by decide +kernel)
theorem mw_804 : (Jvm.Cond.codeWith ({ cls := "CrossedSheetLaw", name := "tryCount", desc := "(LCrossedSheet;II)I" } : Jvm.MethodName) method_21_code (4 : Nat) (Option.some Jvm.ClassFile.FieldType.int) [((0 : Nat), (6 : Nat), (7 : Nat), (13 : Nat)), ((0 : Nat), (6 : Nat), (11 : Nat), (16 : Nat))]) ∈ TW := TWm 804 (by decide +kernel) (by decide +kernel)
theorem mw_813 : (Jvm.Cond.methodLink "CrossedSheetLaw" (157 : Nat) ({ cls := "CrossedSheetLaw", name := "tryBest", desc := "(LCrossedSheet;I)I" } : Jvm.MethodName)) ∈ TW := TWm 813 (by decide +kernel) (by decide +kernel)
theorem mw_814 : (Jvm.Cond.static ({ cls := "CrossedSheetLaw", name := "tryBest", desc := "(LCrossedSheet;I)I" } : Jvm.MethodName)) ∈ TW := TWm 814 (by decide +kernel) (by decide +kernel)
theorem mw_815 : (Jvm.Cond.codeWith ({ cls := "CrossedSheetLaw", name := "tryBest", desc := "(LCrossedSheet;I)I" } : Jvm.MethodName) method_22_code (3 : Nat) (Option.some Jvm.ClassFile.FieldType.int) [((0 : Nat), (5 : Nat), (6 : Nat), (13 : Nat))]) ∈ TW := TWm 815 (by decide +kernel) (by decide +kernel)
theorem mw_824 : (Jvm.Cond.methodLink "CrossedSheetLaw" (160 : Nat) ({ cls := "CrossedSheetLaw", name := "tryClears", desc := "(LCrossedSheet;I)I" } : Jvm.MethodName)) ∈ TW := TWm 824 (by decide +kernel) (by decide +kernel)
theorem mw_825 : (Jvm.Cond.static ({ cls := "CrossedSheetLaw", name := "tryClears", desc := "(LCrossedSheet;I)I" } : Jvm.MethodName)) ∈ TW := TWm 825 (by decide +kernel) (by decide +kernel)
theorem mw_826 : (Jvm.Cond.codeWith ({ cls := "CrossedSheetLaw", name := "tryClears", desc := "(LCrossedSheet;I)I" } : Jvm.MethodName) method_23_code (3 : Nat) (Option.some Jvm.ClassFile.FieldType.int) [((0 : Nat), (5 : Nat), (6 : Nat), (13 : Nat))]) ∈ TW := TWm 826 (by decide +kernel) (by decide +kernel)
theorem mw_837 : (Jvm.Cond.methodLink "CrossedSheetLaw" (163 : Nat) ({ cls := "CrossedSheetLaw", name := "tryWith", desc := "(LCrossedSheet;II)I" } : Jvm.MethodName)) ∈ TW := TWm 837 (by decide +kernel) (by decide +kernel)
theorem mw_838 : (Jvm.Cond.static ({ cls := "CrossedSheetLaw", name := "tryWith", desc := "(LCrossedSheet;II)I" } : Jvm.MethodName)) ∈ TW := TWm 838 (by decide +kernel) (by decide +kernel)
theorem mw_839 : (Jvm.Cond.codeWith ({ cls := "CrossedSheetLaw", name := "tryWith", desc := "(LCrossedSheet;II)I" } : Jvm.MethodName) method_24_code (4 : Nat) (Option.some Jvm.ClassFile.FieldType.int) [((0 : Nat), (6 : Nat), (7 : Nat), (13 : Nat)), ((0 : Nat), (6 : Nat), (11 : Nat), (16 : Nat))]) ∈ TW := TWm 839 (by decide +kernel) (by decide +kernel)
theorem mw_844 : (Jvm.Cond.methodLink "CrossedSheetLaw" (166 : Nat) ({ cls := "CrossedSheetLaw", name := "trySave", desc := "(LCrossedSheet;I)I" } : Jvm.MethodName)) ∈ TW := TWm 844 (by decide +kernel) (by decide +kernel)
theorem mw_845 : (Jvm.Cond.static ({ cls := "CrossedSheetLaw", name := "trySave", desc := "(LCrossedSheet;I)I" } : Jvm.MethodName)) ∈ TW := TWm 845 (by decide +kernel) (by decide +kernel)
theorem mw_846 : (Jvm.Cond.codeWith ({ cls := "CrossedSheetLaw", name := "trySave", desc := "(LCrossedSheet;I)I" } : Jvm.MethodName) method_25_code (3 : Nat) (Option.some Jvm.ClassFile.FieldType.int) [((0 : Nat), (5 : Nat), (6 : Nat), (13 : Nat))]) ∈ TW := TWm 846 (by decide +kernel) (by decide +kernel)
theorem mw_856 : (Jvm.Cond.methodLink "CrossedSheetLaw" (169 : Nat) ({ cls := "CrossedSheetLaw", name := "tryRestore", desc := "(LCrossedSheet;I)I" } : Jvm.MethodName)) ∈ TW := TWm 856 (by decide +kernel) (by decide +kernel)
theorem mw_857 : (Jvm.Cond.static ({ cls := "CrossedSheetLaw", name := "tryRestore", desc := "(LCrossedSheet;I)I" } : Jvm.MethodName)) ∈ TW := TWm 857 (by decide +kernel) (by decide +kernel)
theorem mw_858 : (Jvm.Cond.codeWith ({ cls := "CrossedSheetLaw", name := "tryRestore", desc := "(LCrossedSheet;I)I" } : Jvm.MethodName) method_26_code (3 : Nat) (Option.some Jvm.ClassFile.FieldType.int) [((0 : Nat), (5 : Nat), (6 : Nat), (13 : Nat)), ((0 : Nat), (5 : Nat), (10 : Nat), (19 : Nat))]) ∈ TW := TWm 858 (by decide +kernel) (by decide +kernel)
theorem ys_L_call : yL_call.cls ≠ "java/lang/invoke/MethodHandle" ∧ yL_call.cls ≠ "java/lang/invoke/VarHandle" ∧ (parseMethodDescriptor yL_call.desc).map (fun d => d.parameters.length) = some 6 := by decide +kernel
theorem ys_L_tryAbout : yL_tryAbout.cls ≠ "java/lang/invoke/MethodHandle" ∧ yL_tryAbout.cls ≠ "java/lang/invoke/VarHandle" ∧ (parseMethodDescriptor yL_tryAbout.desc).map (fun d => d.parameters.length) = some 2 := by decide +kernel
theorem ys_L_tryAppend : yL_tryAppend.cls ≠ "java/lang/invoke/MethodHandle" ∧ yL_tryAppend.cls ≠ "java/lang/invoke/VarHandle" ∧ (parseMethodDescriptor yL_tryAppend.desc).map (fun d => d.parameters.length) = some 2 := by decide +kernel
theorem ys_L_tryAt : yL_tryAt.cls ≠ "java/lang/invoke/MethodHandle" ∧ yL_tryAt.cls ≠ "java/lang/invoke/VarHandle" ∧ (parseMethodDescriptor yL_tryAt.desc).map (fun d => d.parameters.length) = some 4 := by decide +kernel
theorem ys_L_tryBest : yL_tryBest.cls ≠ "java/lang/invoke/MethodHandle" ∧ yL_tryBest.cls ≠ "java/lang/invoke/VarHandle" ∧ (parseMethodDescriptor yL_tryBest.desc).map (fun d => d.parameters.length) = some 2 := by decide +kernel
theorem ys_L_tryClears : yL_tryClears.cls ≠ "java/lang/invoke/MethodHandle" ∧ yL_tryClears.cls ≠ "java/lang/invoke/VarHandle" ∧ (parseMethodDescriptor yL_tryClears.desc).map (fun d => d.parameters.length) = some 2 := by decide +kernel
theorem ys_L_tryCount : yL_tryCount.cls ≠ "java/lang/invoke/MethodHandle" ∧ yL_tryCount.cls ≠ "java/lang/invoke/VarHandle" ∧ (parseMethodDescriptor yL_tryCount.desc).map (fun d => d.parameters.length) = some 3 := by decide +kernel
theorem ys_L_tryDecide : yL_tryDecide.cls ≠ "java/lang/invoke/MethodHandle" ∧ yL_tryDecide.cls ≠ "java/lang/invoke/VarHandle" ∧ (parseMethodDescriptor yL_tryDecide.desc).map (fun d => d.parameters.length) = some 5 := by decide +kernel
theorem ys_L_tryErase : yL_tryErase.cls ≠ "java/lang/invoke/MethodHandle" ∧ yL_tryErase.cls ≠ "java/lang/invoke/VarHandle" ∧ (parseMethodDescriptor yL_tryErase.desc).map (fun d => d.parameters.length) = some 4 := by decide +kernel
theorem ys_L_tryGap : yL_tryGap.cls ≠ "java/lang/invoke/MethodHandle" ∧ yL_tryGap.cls ≠ "java/lang/invoke/VarHandle" ∧ (parseMethodDescriptor yL_tryGap.desc).map (fun d => d.parameters.length) = some 2 := by decide +kernel
theorem ys_L_tryLength : yL_tryLength.cls ≠ "java/lang/invoke/MethodHandle" ∧ yL_tryLength.cls ≠ "java/lang/invoke/VarHandle" ∧ (parseMethodDescriptor yL_tryLength.desc).map (fun d => d.parameters.length) = some 3 := by decide +kernel
theorem ys_L_tryLetter : yL_tryLetter.cls ≠ "java/lang/invoke/MethodHandle" ∧ yL_tryLetter.cls ≠ "java/lang/invoke/VarHandle" ∧ (parseMethodDescriptor yL_tryLetter.desc).map (fun d => d.parameters.length) = some 3 := by decide +kernel
theorem ys_L_tryLoad : yL_tryLoad.cls ≠ "java/lang/invoke/MethodHandle" ∧ yL_tryLoad.cls ≠ "java/lang/invoke/VarHandle" ∧ (parseMethodDescriptor yL_tryLoad.desc).map (fun d => d.parameters.length) = some 1 := by decide +kernel
theorem ys_L_tryMargin : yL_tryMargin.cls ≠ "java/lang/invoke/MethodHandle" ∧ yL_tryMargin.cls ≠ "java/lang/invoke/VarHandle" ∧ (parseMethodDescriptor yL_tryMargin.desc).map (fun d => d.parameters.length) = some 2 := by decide +kernel
theorem ys_L_tryMark : yL_tryMark.cls ≠ "java/lang/invoke/MethodHandle" ∧ yL_tryMark.cls ≠ "java/lang/invoke/VarHandle" ∧ (parseMethodDescriptor yL_tryMark.desc).map (fun d => d.parameters.length) = some 5 := by decide +kernel
theorem ys_L_tryMarks : yL_tryMarks.cls ≠ "java/lang/invoke/MethodHandle" ∧ yL_tryMarks.cls ≠ "java/lang/invoke/VarHandle" ∧ (parseMethodDescriptor yL_tryMarks.desc).map (fun d => d.parameters.length) = some 3 := by decide +kernel
theorem ys_L_tryPen : yL_tryPen.cls ≠ "java/lang/invoke/MethodHandle" ∧ yL_tryPen.cls ≠ "java/lang/invoke/VarHandle" ∧ (parseMethodDescriptor yL_tryPen.desc).map (fun d => d.parameters.length) = some 5 := by decide +kernel
theorem ys_L_tryRestore : yL_tryRestore.cls ≠ "java/lang/invoke/MethodHandle" ∧ yL_tryRestore.cls ≠ "java/lang/invoke/VarHandle" ∧ (parseMethodDescriptor yL_tryRestore.desc).map (fun d => d.parameters.length) = some 2 := by decide +kernel
theorem ys_L_trySave : yL_trySave.cls ≠ "java/lang/invoke/MethodHandle" ∧ yL_trySave.cls ≠ "java/lang/invoke/VarHandle" ∧ (parseMethodDescriptor yL_trySave.desc).map (fun d => d.parameters.length) = some 2 := by decide +kernel
theorem ys_L_trySign : yL_trySign.cls ≠ "java/lang/invoke/MethodHandle" ∧ yL_trySign.cls ≠ "java/lang/invoke/VarHandle" ∧ (parseMethodDescriptor yL_trySign.desc).map (fun d => d.parameters.length) = some 4 := by decide +kernel
theorem ys_L_tryUndo : yL_tryUndo.cls ≠ "java/lang/invoke/MethodHandle" ∧ yL_tryUndo.cls ≠ "java/lang/invoke/VarHandle" ∧ (parseMethodDescriptor yL_tryUndo.desc).map (fun d => d.parameters.length) = some 1 := by decide +kernel
theorem ys_L_tryWith : yL_tryWith.cls ≠ "java/lang/invoke/MethodHandle" ∧ yL_tryWith.cls ≠ "java/lang/invoke/VarHandle" ∧ (parseMethodDescriptor yL_tryWith.desc).map (fun d => d.parameters.length) = some 3 := by decide +kernel
theorem cw_L_102 : GoodIn TW (va_wsS RL 102 yL_tryAppend (.codeWith yL_tryAppend cL_tryAppend 3 (some .int) [(0, 5, 6, 16), (0, 5, 10, 19)] :: TW)) := zGSW mw_483 mw_484 mw_25 mw_485
theorem cw_L_108 : GoodIn TW (va_wsS RL 108 yL_tryLoad (.codeWith yL_tryLoad cL_tryLoad 2 (some .int) [(0, 4, 5, 19)] :: TW)) := zGSW mw_509 mw_510 mw_25 mw_511
theorem cw_L_112 : GoodIn TW (va_wsS RL 112 yL_tryAbout (.codeWith yL_tryAbout cL_tryAbout 3 (some .int) [(0, 5, 6, 16)] :: TW)) := zGSW mw_582 mw_583 mw_25 mw_584
theorem cw_L_115 : GoodIn TW (va_wsS RL 115 yL_tryLetter (.codeWith yL_tryLetter cL_tryLetter 4 (some .int) [(0, 6, 7, 13), (0, 6, 11, 16)] :: TW)) := zGSW mw_601 mw_602 mw_25 mw_603
theorem cw_L_119 : GoodIn TW (va_wsS RL 119 yL_tryMarks (.codeWith yL_tryMarks cL_tryMarks 4 (some .int) [(0, 6, 7, 13)] :: TW)) := zGSW mw_645 mw_646 mw_25 mw_647
theorem cw_L_122 : GoodIn TW (va_wsS RL 122 yL_tryMark (.codeWith yL_tryMark cL_tryMark 6 (some .int) [(0, 9, 10, 13), (0, 9, 15, 16)] :: TW)) := zGSW mw_659 mw_660 mw_25 mw_661
theorem cw_L_126 : GoodIn TW (va_wsS RL 126 yL_tryLength (.codeWith yL_tryLength cL_tryLength 4 (some .int) [(0, 6, 7, 13)] :: TW)) := zGSW mw_682 mw_683 mw_25 mw_684
theorem cw_L_129 : GoodIn TW (va_wsS RL 129 yL_trySign (.codeWith yL_trySign cL_trySign 5 (some .int) [(0, 7, 8, 13), (0, 7, 13, 16)] :: TW)) := zGSW mw_696 mw_697 mw_25 mw_698
theorem cw_L_133 : GoodIn TW (va_wsS RL 133 yL_tryAt (.codeWith yL_tryAt cL_tryAt 5 (some .int) [(0, 7, 8, 13)] :: TW)) := zGSW mw_708 mw_709 mw_25 mw_710
theorem cw_L_136 : GoodIn TW (va_wsS RL 136 yL_tryErase (.codeWith yL_tryErase cL_tryErase 5 (some .int) [(0, 7, 8, 13)] :: TW)) := zGSW mw_715 mw_716 mw_25 mw_717
theorem cw_L_139 : GoodIn TW (va_wsS RL 139 yL_tryDecide (.codeWith yL_tryDecide cL_tryDecide 6 (some .int) [(0, 9, 10, 13), (0, 9, 15, 16), (0, 9, 20, 19)] :: TW)) := zGSW mw_739 mw_740 mw_25 mw_741
theorem cw_L_142 : GoodIn TW (va_wsS RL 142 yL_tryPen (.codeWith yL_tryPen cL_tryPen 6 (some .int) [(0, 9, 10, 13), (0, 9, 15, 16)] :: TW)) := zGSW mw_759 mw_760 mw_25 mw_761
theorem cw_L_145 : GoodIn TW (va_wsS RL 145 yL_tryMargin (.codeWith yL_tryMargin cL_tryMargin 3 (some .int) [(0, 5, 6, 16)] :: TW)) := zGSW mw_767 mw_768 mw_25 mw_769
theorem cw_L_148 : GoodIn TW (va_wsS RL 148 yL_tryGap (.codeWith yL_tryGap cL_tryGap 3 (some .int) [(0, 5, 6, 16)] :: TW)) := zGSW mw_774 mw_775 mw_25 mw_776
theorem cw_L_151 : GoodIn TW (va_wsS RL 151 yL_tryUndo (.codeWith yL_tryUndo cL_tryUndo 2 (some .int) [(0, 4, 5, 19)] :: TW)) := zGSW mw_781 mw_782 mw_25 mw_783
theorem cw_L_154 : GoodIn TW (va_wsS RL 154 yL_tryCount (.codeWith yL_tryCount cL_tryCount 4 (some .int) [(0, 6, 7, 13), (0, 6, 11, 16)] :: TW)) := zGSW mw_802 mw_803 mw_25 mw_804
theorem cw_L_157 : GoodIn TW (va_wsS RL 157 yL_tryBest (.codeWith yL_tryBest cL_tryBest 3 (some .int) [(0, 5, 6, 13)] :: TW)) := zGSW mw_813 mw_814 mw_25 mw_815
theorem cw_L_160 : GoodIn TW (va_wsS RL 160 yL_tryClears (.codeWith yL_tryClears cL_tryClears 3 (some .int) [(0, 5, 6, 13)] :: TW)) := zGSW mw_824 mw_825 mw_25 mw_826
theorem cw_L_163 : GoodIn TW (va_wsS RL 163 yL_tryWith (.codeWith yL_tryWith cL_tryWith 4 (some .int) [(0, 6, 7, 13), (0, 6, 11, 16)] :: TW)) := zGSW mw_837 mw_838 mw_25 mw_839
theorem cw_L_166 : GoodIn TW (va_wsS RL 166 yL_trySave (.codeWith yL_trySave cL_trySave 3 (some .int) [(0, 5, 6, 13)] :: TW)) := zGSW mw_844 mw_845 mw_25 mw_846
theorem cw_L_169 : GoodIn TW (va_wsS RL 169 yL_tryRestore (.codeWith yL_tryRestore cL_tryRestore 3 (some .int) [(0, 5, 6, 13), (0, 5, 10, 19)] :: TW)) := zGSW mw_856 mw_857 mw_25 mw_858
theorem cw_L_174 : GoodIn TW (va_wsS RL 174 yL_call (.code yL_call cL_call 6 (some .int) :: TW)) := zGS mw_480 mw_481 mw_25 mw_482
theorem dL_cell_0 : decode cL_cell 0 = .ok (.iload_n 1, 1) := by decide +kernel
theorem dL_cell_1 : decode cL_cell 1 = .ok (.aload_n 0, 1) := by decide +kernel
theorem dL_cell_2 : decode cL_cell 2 = .ok (.arraylength, 1) := by decide +kernel
theorem dL_cell_3 : decode cL_cell 3 = .ok (.if_icmp .ge 9, 3) := by decide +kernel
theorem dL_cell_6 : decode cL_cell 6 = .ok (.aload_n 0, 1) := by decide +kernel
theorem dL_cell_7 : decode cL_cell 7 = .ok (.iload_n 1, 1) := by decide +kernel
theorem dL_cell_8 : decode cL_cell 8 = .ok (.iaload, 1) := by decide +kernel
theorem dL_cell_9 : decode cL_cell 9 = .ok (.goto 13, 3) := by decide +kernel
theorem dL_cell_12 : decode cL_cell 12 = .ok (.ldc 172, 2) := by decide +kernel
theorem dL_cell_14 : decode cL_cell 14 = .ok (.iload_n 1, 1) := by decide +kernel
theorem dL_cell_15 : decode cL_cell 15 = .ok (.iconst 3, 1) := by decide +kernel
theorem dL_cell_16 : decode cL_cell 16 = .ok (.iadd, 1) := by decide +kernel
theorem dL_cell_17 : decode cL_cell 17 = .ok (.imul, 1) := by decide +kernel
theorem dL_cell_18 : decode cL_cell 18 = .ok (.sipush 10313, 3) := by decide +kernel
theorem dL_cell_21 : decode cL_cell 21 = .ok (.iadd, 1) := by decide +kernel
theorem dL_cell_22 : decode cL_cell 22 = .ok (.ldc 173, 2) := by decide +kernel
theorem dL_cell_24 : decode cL_cell 24 = .ok (.iand, 1) := by decide +kernel
theorem dL_cell_25 : decode cL_cell 25 = .ok (.ireturn, 1) := by decide +kernel
def FL_cell (xv : Nat → Int32) (L : Nat) (p0 : Int32) : Option Int32 := zJ (fun (x1 : Int32) => some (x1 &&& 2147483647)) (fun J2 => if (Int32.ofNat L) ≤ p0 then (J2 ((15518099 * (p0 + 3)) + 10313)) else ((zsc xv L p0).bind fun x3 => J2 x3))
set_option maxHeartbeats 4000000 in
set_option maxRecDepth 100000 in
theorem BL_cell {X : zX} {bs L : Nat} {xv : Nat → Int32} (CS : zCS X cL_cell 2 RL "cell" (some .int) 0 0 bs L xv) {hi : Nat} {h : zH} {p0 : Int32} {r9 : Int32} (hf : FL_cell xv L p0 = some r9) : zW X 2 (zZ X false (some (.int r9), hi, h)) 0 0 false hi h 0 [(0, .ref bs), (1, .int p0)] [] := by
  have C := CS.1
  unfold FL_cell at hf
  refine z_join (P := fun J => ∀ (x1 : Int32), J x1 = some r9 → zW X 2 (zZ X false (some (.int r9), hi, h)) 0 0 false hi h 22 [] [.int x1]) hf ?_ ?_
  · intro x1 hf
    refine z_ldc C (v := 2147483647) mw_472 dL_cell_22 ?_
    refine z_iand C dL_cell_24 ?_
    exact z_ireturn C dL_cell_25 (by cases hf; rfl)
  · intro J2 kJ2 hf
    refine z_iload_n C dL_cell_0 1 rfl rfl ?_
    refine z_aload_n C dL_cell_1 0 rfl rfl ?_
    refine z_slen CS dL_cell_2 ?_
    refine z_icmp_ge (tgt := 12) C dL_cell_3 (by decide) hf (fun hf => ?_) (fun hf => ?_)
    · refine z_ldc C (v := 15518099) mw_471 dL_cell_12 ?_
      refine z_iload_n C dL_cell_14 1 rfl rfl ?_
      refine z_iconst C (v := 3) dL_cell_15 (by decide) ?_
      refine z_iadd C dL_cell_16 ?_
      refine z_imul C dL_cell_17 ?_
      refine z_sipush C (v := 10313) dL_cell_18 (by decide) ?_
      refine z_iadd C dL_cell_21 ?_
      refine z_sub [] rfl ?_
      exact kJ2 _ hf
    · refine z_aload_n C dL_cell_6 0 rfl rfl ?_
      refine z_iload_n C dL_cell_7 1 rfl rfl ?_
      refine z_sld CS dL_cell_8 hf (fun x3 hf => ?_)
      refine z_goto (tgt := 22) C dL_cell_9 (by decide) ?_
      refine z_sub [] rfl ?_
      exact kJ2 _ hf
theorem ML_cell (l : Launch) (D : va_G) (T : zT) (lo hi : Nat) {bs L : Nat} {xv : Nat → Int32} {h : zH} {p0 : Int32} {r9 : Int32} (hf : FL_cell xv L p0 = some r9) : zMS l yL_cell (.code yL_cell cL_cell 2 (some .int) :: TW) ({ frames := 0, cells := 0, slots := 0, locals := 0 } : Room) D T lo bs L xv [.ref bs, .int p0] hi h (some (.int r9), hi, h) :=
  z_enterS (own := RL) (nm := "cell") (lv := [(0, .ref bs), (1, .int p0)]) (by decide +kernel) rfl rfl (Nat.le_of_ble_eq_true rfl) rfl (fun _ _ _ _ _ _ _ _ C => BL_cell C hf)
theorem dL_call_0 : decode cL_call 0 = .ok (.iload_n 1, 1) := by decide +kernel
theorem dL_call_1 : decode cL_call 1 = .ok (.tableswitch 242 0 19 #[95, 101, 106, 112, 119, 126, 137, 144, 153, 162, 171, 182, 193, 199, 205, 210, 217, 223, 229, 236], 95) := by decide +kernel
theorem dL_call_96 : decode cL_call 96 = .ok (.aload_n 0, 1) := by decide +kernel
theorem dL_call_97 : decode cL_call 97 = .ok (.iload_n 2, 1) := by decide +kernel
theorem dL_call_98 : decode cL_call 98 = .ok (.invokestatic 102, 3) := by decide +kernel
theorem dL_call_101 : decode cL_call 101 = .ok (.ireturn, 1) := by decide +kernel
theorem dL_call_102 : decode cL_call 102 = .ok (.aload_n 0, 1) := by decide +kernel
theorem dL_call_103 : decode cL_call 103 = .ok (.invokestatic 108, 3) := by decide +kernel
theorem dL_call_106 : decode cL_call 106 = .ok (.ireturn, 1) := by decide +kernel
theorem dL_call_107 : decode cL_call 107 = .ok (.aload_n 0, 1) := by decide +kernel
theorem dL_call_108 : decode cL_call 108 = .ok (.iload_n 2, 1) := by decide +kernel
theorem dL_call_109 : decode cL_call 109 = .ok (.invokestatic 112, 3) := by decide +kernel
theorem dL_call_112 : decode cL_call 112 = .ok (.ireturn, 1) := by decide +kernel
theorem dL_call_113 : decode cL_call 113 = .ok (.aload_n 0, 1) := by decide +kernel
theorem dL_call_114 : decode cL_call 114 = .ok (.iload_n 2, 1) := by decide +kernel
theorem dL_call_115 : decode cL_call 115 = .ok (.iload_n 3, 1) := by decide +kernel
theorem dL_call_116 : decode cL_call 116 = .ok (.invokestatic 115, 3) := by decide +kernel
theorem dL_call_119 : decode cL_call 119 = .ok (.ireturn, 1) := by decide +kernel
theorem dL_call_120 : decode cL_call 120 = .ok (.aload_n 0, 1) := by decide +kernel
theorem dL_call_121 : decode cL_call 121 = .ok (.iload_n 2, 1) := by decide +kernel
theorem dL_call_122 : decode cL_call 122 = .ok (.iload_n 3, 1) := by decide +kernel
theorem dL_call_123 : decode cL_call 123 = .ok (.invokestatic 119, 3) := by decide +kernel
theorem dL_call_126 : decode cL_call 126 = .ok (.ireturn, 1) := by decide +kernel
theorem dL_call_127 : decode cL_call 127 = .ok (.aload_n 0, 1) := by decide +kernel
theorem dL_call_128 : decode cL_call 128 = .ok (.iload_n 2, 1) := by decide +kernel
theorem dL_call_129 : decode cL_call 129 = .ok (.iload_n 3, 1) := by decide +kernel
theorem dL_call_130 : decode cL_call 130 = .ok (.iload 4, 2) := by decide +kernel
theorem dL_call_132 : decode cL_call 132 = .ok (.iload 5, 2) := by decide +kernel
theorem dL_call_134 : decode cL_call 134 = .ok (.invokestatic 122, 3) := by decide +kernel
theorem dL_call_137 : decode cL_call 137 = .ok (.ireturn, 1) := by decide +kernel
theorem dL_call_138 : decode cL_call 138 = .ok (.aload_n 0, 1) := by decide +kernel
theorem dL_call_139 : decode cL_call 139 = .ok (.iload_n 2, 1) := by decide +kernel
theorem dL_call_140 : decode cL_call 140 = .ok (.iload_n 3, 1) := by decide +kernel
theorem dL_call_141 : decode cL_call 141 = .ok (.invokestatic 126, 3) := by decide +kernel
theorem dL_call_144 : decode cL_call 144 = .ok (.ireturn, 1) := by decide +kernel
theorem dL_call_145 : decode cL_call 145 = .ok (.aload_n 0, 1) := by decide +kernel
theorem dL_call_146 : decode cL_call 146 = .ok (.iload_n 2, 1) := by decide +kernel
theorem dL_call_147 : decode cL_call 147 = .ok (.iload_n 3, 1) := by decide +kernel
theorem dL_call_148 : decode cL_call 148 = .ok (.iload 4, 2) := by decide +kernel
theorem dL_call_150 : decode cL_call 150 = .ok (.invokestatic 129, 3) := by decide +kernel
theorem dL_call_153 : decode cL_call 153 = .ok (.ireturn, 1) := by decide +kernel
theorem dL_call_154 : decode cL_call 154 = .ok (.aload_n 0, 1) := by decide +kernel
theorem dL_call_155 : decode cL_call 155 = .ok (.iload_n 2, 1) := by decide +kernel
theorem dL_call_156 : decode cL_call 156 = .ok (.iload_n 3, 1) := by decide +kernel
theorem dL_call_157 : decode cL_call 157 = .ok (.iload 4, 2) := by decide +kernel
theorem dL_call_159 : decode cL_call 159 = .ok (.invokestatic 133, 3) := by decide +kernel
theorem dL_call_162 : decode cL_call 162 = .ok (.ireturn, 1) := by decide +kernel
theorem dL_call_163 : decode cL_call 163 = .ok (.aload_n 0, 1) := by decide +kernel
theorem dL_call_164 : decode cL_call 164 = .ok (.iload_n 2, 1) := by decide +kernel
theorem dL_call_165 : decode cL_call 165 = .ok (.iload_n 3, 1) := by decide +kernel
theorem dL_call_166 : decode cL_call 166 = .ok (.iload 4, 2) := by decide +kernel
theorem dL_call_168 : decode cL_call 168 = .ok (.invokestatic 136, 3) := by decide +kernel
theorem dL_call_171 : decode cL_call 171 = .ok (.ireturn, 1) := by decide +kernel
theorem dL_call_172 : decode cL_call 172 = .ok (.aload_n 0, 1) := by decide +kernel
theorem dL_call_173 : decode cL_call 173 = .ok (.iload_n 2, 1) := by decide +kernel
theorem dL_call_174 : decode cL_call 174 = .ok (.iload_n 3, 1) := by decide +kernel
theorem dL_call_175 : decode cL_call 175 = .ok (.iload 4, 2) := by decide +kernel
theorem dL_call_177 : decode cL_call 177 = .ok (.iload 5, 2) := by decide +kernel
theorem dL_call_179 : decode cL_call 179 = .ok (.invokestatic 139, 3) := by decide +kernel
theorem dL_call_182 : decode cL_call 182 = .ok (.ireturn, 1) := by decide +kernel
theorem dL_call_183 : decode cL_call 183 = .ok (.aload_n 0, 1) := by decide +kernel
theorem dL_call_184 : decode cL_call 184 = .ok (.iload_n 2, 1) := by decide +kernel
theorem dL_call_185 : decode cL_call 185 = .ok (.iload_n 3, 1) := by decide +kernel
theorem dL_call_186 : decode cL_call 186 = .ok (.iload 4, 2) := by decide +kernel
theorem dL_call_188 : decode cL_call 188 = .ok (.iload 5, 2) := by decide +kernel
theorem dL_call_190 : decode cL_call 190 = .ok (.invokestatic 142, 3) := by decide +kernel
theorem dL_call_193 : decode cL_call 193 = .ok (.ireturn, 1) := by decide +kernel
theorem dL_call_194 : decode cL_call 194 = .ok (.aload_n 0, 1) := by decide +kernel
theorem dL_call_195 : decode cL_call 195 = .ok (.iload_n 2, 1) := by decide +kernel
theorem dL_call_196 : decode cL_call 196 = .ok (.invokestatic 145, 3) := by decide +kernel
theorem dL_call_199 : decode cL_call 199 = .ok (.ireturn, 1) := by decide +kernel
theorem dL_call_200 : decode cL_call 200 = .ok (.aload_n 0, 1) := by decide +kernel
theorem dL_call_201 : decode cL_call 201 = .ok (.iload_n 2, 1) := by decide +kernel
theorem dL_call_202 : decode cL_call 202 = .ok (.invokestatic 148, 3) := by decide +kernel
theorem dL_call_205 : decode cL_call 205 = .ok (.ireturn, 1) := by decide +kernel
theorem dL_call_206 : decode cL_call 206 = .ok (.aload_n 0, 1) := by decide +kernel
theorem dL_call_207 : decode cL_call 207 = .ok (.invokestatic 151, 3) := by decide +kernel
theorem dL_call_210 : decode cL_call 210 = .ok (.ireturn, 1) := by decide +kernel
theorem dL_call_211 : decode cL_call 211 = .ok (.aload_n 0, 1) := by decide +kernel
theorem dL_call_212 : decode cL_call 212 = .ok (.iload_n 2, 1) := by decide +kernel
theorem dL_call_213 : decode cL_call 213 = .ok (.iload_n 3, 1) := by decide +kernel
theorem dL_call_214 : decode cL_call 214 = .ok (.invokestatic 154, 3) := by decide +kernel
theorem dL_call_217 : decode cL_call 217 = .ok (.ireturn, 1) := by decide +kernel
theorem dL_call_218 : decode cL_call 218 = .ok (.aload_n 0, 1) := by decide +kernel
theorem dL_call_219 : decode cL_call 219 = .ok (.iload_n 2, 1) := by decide +kernel
theorem dL_call_220 : decode cL_call 220 = .ok (.invokestatic 157, 3) := by decide +kernel
theorem dL_call_223 : decode cL_call 223 = .ok (.ireturn, 1) := by decide +kernel
theorem dL_call_224 : decode cL_call 224 = .ok (.aload_n 0, 1) := by decide +kernel
theorem dL_call_225 : decode cL_call 225 = .ok (.iload_n 2, 1) := by decide +kernel
theorem dL_call_226 : decode cL_call 226 = .ok (.invokestatic 160, 3) := by decide +kernel
theorem dL_call_229 : decode cL_call 229 = .ok (.ireturn, 1) := by decide +kernel
theorem dL_call_230 : decode cL_call 230 = .ok (.aload_n 0, 1) := by decide +kernel
theorem dL_call_231 : decode cL_call 231 = .ok (.iload_n 2, 1) := by decide +kernel
theorem dL_call_232 : decode cL_call 232 = .ok (.iload_n 3, 1) := by decide +kernel
theorem dL_call_233 : decode cL_call 233 = .ok (.invokestatic 163, 3) := by decide +kernel
theorem dL_call_236 : decode cL_call 236 = .ok (.ireturn, 1) := by decide +kernel
theorem dL_call_237 : decode cL_call 237 = .ok (.aload_n 0, 1) := by decide +kernel
theorem dL_call_238 : decode cL_call 238 = .ok (.iload_n 2, 1) := by decide +kernel
theorem dL_call_239 : decode cL_call 239 = .ok (.invokestatic 166, 3) := by decide +kernel
theorem dL_call_242 : decode cL_call 242 = .ok (.ireturn, 1) := by decide +kernel
theorem dL_call_243 : decode cL_call 243 = .ok (.aload_n 0, 1) := by decide +kernel
theorem dL_call_244 : decode cL_call 244 = .ok (.iload_n 2, 1) := by decide +kernel
theorem dL_call_245 : decode cL_call 245 = .ok (.invokestatic 169, 3) := by decide +kernel
theorem dL_call_248 : decode cL_call 248 = .ok (.ireturn, 1) := by decide +kernel
def FL_call (T : zT) (p0 : Nat) (p1 : Int32) (p2 : Int32) (p3 : Int32) (p4 : Int32) (p5 : Int32) (h : zH) : Option (Int32 × zH × Nat) := if p1 = 0 then (zcn 2 (FL_tryAppend T p0 p2 h) fun x2 h3 => some (x2, h3, 0)) else (if p1 = 1 then (zcn 1 (FL_tryLoad T p0 h) fun x5 h6 => some (x5, h6, 0)) else (if p1 = 2 then (zcn 1 (FL_tryAbout T p0 p2 h) fun x8 h9 => some (x8, h9, 0)) else (if p1 = 3 then (zcn 2 (FL_tryLetter T p0 p2 p3 h) fun x11 h12 => some (x11, h12, 0)) else (if p1 = 4 then (zcn 1 (FL_tryMarks T p0 p2 p3 h) fun x14 h15 => some (x14, h15, 0)) else (if p1 = 5 then (zcn 2 (FL_tryMark T p0 p2 p3 p4 p5 h) fun x17 h18 => some (x17, h18, 0)) else (if p1 = 6 then (zcn 2 (FL_tryLength T p0 p2 p3 h) fun x20 h21 => some (x20, h21, 0)) else (if p1 = 7 then (zcn 3 (FL_trySign T p0 p2 p3 p4 h) fun x23 h24 => some (x23, h24, 0)) else (if p1 = 8 then (zcn 2 (FL_tryAt T p0 p2 p3 p4 h) fun x26 h27 => some (x26, h27, 0)) else (if p1 = 9 then (zcn 1 (FL_tryErase T p0 p2 p3 p4 h) fun x29 h30 => some (x29, h30, 0)) else (if p1 = 10 then (zcn 3 (FL_tryDecide T p0 p2 p3 p4 p5 h) fun x32 h33 => some (x32, h33, 0)) else (if p1 = 11 then (zcn 4 (FL_tryPen T p0 p2 p3 p4 p5 h) fun x35 h36 => some (x35, h36, 0)) else (if p1 = 12 then (zcn 1 (FL_tryMargin T p0 p2 h) fun x38 h39 => some (x38, h39, 0)) else (if p1 = 13 then (zcn 1 (FL_tryGap T p0 p2 h) fun x41 h42 => some (x41, h42, 0)) else (if p1 = 14 then (zcn 1 (FL_tryUndo T p0 h) fun x44 h45 => some (x44, h45, 0)) else (if p1 = 15 then (zcn 2 (FL_tryCount T p0 p2 p3 h) fun x47 h48 => some (x47, h48, 0)) else (if p1 = 16 then (zcn 1 (FL_tryBest T p0 p2 h) fun x50 h51 => some (x50, h51, 0)) else (if p1 = 17 then (zcn 1 (FL_tryClears T p0 p2 h) fun x53 h54 => some (x53, h54, 0)) else (if p1 = 18 then (zcn 2 (FL_tryWith T p0 p2 p3 h) fun x56 h57 => some (x56, h57, 0)) else (if p1 = 19 then (zcn 1 (FL_trySave T p0 p2 h) fun x59 h60 => some (x59, h60, 0)) else (zcn 2 (FL_tryRestore T p0 p2 h) fun x62 h63 => some (x62, h63, 0)))))))))))))))))))))
set_option maxHeartbeats 4000000 in
set_option maxRecDepth 100000 in
theorem BL_call {X : zX} (CL : zCL X cL_call 6 RL "call" (some .int) 9 195) {hi : Nat} {h : zH} {p0 : Nat} {p1 : Int32} {p2 : Int32} {p3 : Int32} {p4 : Int32} {p5 : Int32} {rv : Int32} {rh : zH} {n9 : Nat} (hf : FL_call (xT X) p0 p1 p2 p3 p4 p5 h = some (rv, rh, n9)) : zW X 6 (zZ X false (some (.int rv), hi, rh)) n9 (6 * n9) false hi h 0 [(0, .ref p0), (1, .int p1), (2, .int p2), (3, .int p3), (4, .int p4), (5, .int p5)] [] := by
  have C := CL.1
  unfold FL_call at hf
  refine z_iload_n C dL_call_0 1 rfl rfl ?_
  refine z_ite hf (fun c hf => ?_) (fun c0 hf => ?_)
  · refine z_tswIn (k := 0) (off := 95) (tgt := 96) C c dL_call_1 (by decide) (by decide) ?_
    refine z_aload_n C dL_call_96 0 rfl rfl ?_
    refine z_iload_n C dL_call_97 2 rfl rfl ?_
    obtain ⟨x2, h3, n9, g1, hf, e9⟩ := zcnE hf
    refine z_callLW (kc' := n9) (ks' := 6 * n9) CL (ML_tryAppend (xl X) CL.2.2.2 (xD X) (xT X) (xlo X) hi g1) cw_L_102 ys_L_tryAppend dL_call_98 rfl (by decide) ⟨by show 2 + _ = _; omega, by show 12 + _ = _; omega⟩ (Nat.le_of_ble_eq_true rfl) (st := []) rfl ?_
    exact z_ireturn C dL_call_101 (by cases hf; rfl)
  · refine z_ite hf (fun c hf => ?_) (fun c1 hf => ?_)
    · refine z_tswIn (k := 1) (off := 101) (tgt := 102) C c dL_call_1 (by decide) (by decide) ?_
      refine z_aload_n C dL_call_102 0 rfl rfl ?_
      obtain ⟨x5, h6, n9, g4, hf, e9⟩ := zcnE hf
      refine z_callLW (kc' := n9) (ks' := 6 * n9) CL (ML_tryLoad (xl X) CL.2.2.2 (xD X) (xT X) (xlo X) hi g4) cw_L_108 ys_L_tryLoad dL_call_103 rfl (by decide) ⟨by show 1 + _ = _; omega, by show 6 + _ = _; omega⟩ (Nat.le_of_ble_eq_true rfl) (st := []) rfl ?_
      exact z_ireturn C dL_call_106 (by cases hf; rfl)
    · refine z_ite hf (fun c hf => ?_) (fun c2 hf => ?_)
      · refine z_tswIn (k := 2) (off := 106) (tgt := 107) C c dL_call_1 (by decide) (by decide) ?_
        refine z_aload_n C dL_call_107 0 rfl rfl ?_
        refine z_iload_n C dL_call_108 2 rfl rfl ?_
        obtain ⟨x8, h9, n9, g7, hf, e9⟩ := zcnE hf
        refine z_callLW (kc' := n9) (ks' := 6 * n9) CL (ML_tryAbout (xl X) CL.2.2.2 (xD X) (xT X) (xlo X) hi g7) cw_L_112 ys_L_tryAbout dL_call_109 rfl (by decide) ⟨by show 1 + _ = _; omega, by show 6 + _ = _; omega⟩ (Nat.le_of_ble_eq_true rfl) (st := []) rfl ?_
        exact z_ireturn C dL_call_112 (by cases hf; rfl)
      · refine z_ite hf (fun c hf => ?_) (fun c3 hf => ?_)
        · refine z_tswIn (k := 3) (off := 112) (tgt := 113) C c dL_call_1 (by decide) (by decide) ?_
          refine z_aload_n C dL_call_113 0 rfl rfl ?_
          refine z_iload_n C dL_call_114 2 rfl rfl ?_
          refine z_iload_n C dL_call_115 3 rfl rfl ?_
          obtain ⟨x11, h12, n9, g10, hf, e9⟩ := zcnE hf
          refine z_callLW (kc' := n9) (ks' := 6 * n9) CL (ML_tryLetter (xl X) CL.2.2.2 (xD X) (xT X) (xlo X) hi g10) cw_L_115 ys_L_tryLetter dL_call_116 rfl (by decide) ⟨by show 2 + _ = _; omega, by show 12 + _ = _; omega⟩ (Nat.le_of_ble_eq_true rfl) (st := []) rfl ?_
          exact z_ireturn C dL_call_119 (by cases hf; rfl)
        · refine z_ite hf (fun c hf => ?_) (fun c4 hf => ?_)
          · refine z_tswIn (k := 4) (off := 119) (tgt := 120) C c dL_call_1 (by decide) (by decide) ?_
            refine z_aload_n C dL_call_120 0 rfl rfl ?_
            refine z_iload_n C dL_call_121 2 rfl rfl ?_
            refine z_iload_n C dL_call_122 3 rfl rfl ?_
            obtain ⟨x14, h15, n9, g13, hf, e9⟩ := zcnE hf
            refine z_callLW (kc' := n9) (ks' := 6 * n9) CL (ML_tryMarks (xl X) CL.2.2.2 (xD X) (xT X) (xlo X) hi g13) cw_L_119 ys_L_tryMarks dL_call_123 rfl (by decide) ⟨by show 1 + _ = _; omega, by show 6 + _ = _; omega⟩ (Nat.le_of_ble_eq_true rfl) (st := []) rfl ?_
            exact z_ireturn C dL_call_126 (by cases hf; rfl)
          · refine z_ite hf (fun c hf => ?_) (fun c5 hf => ?_)
            · refine z_tswIn (k := 5) (off := 126) (tgt := 127) C c dL_call_1 (by decide) (by decide) ?_
              refine z_aload_n C dL_call_127 0 rfl rfl ?_
              refine z_iload_n C dL_call_128 2 rfl rfl ?_
              refine z_iload_n C dL_call_129 3 rfl rfl ?_
              refine z_iload C dL_call_130 4 rfl ?_
              refine z_iload C dL_call_132 5 rfl ?_
              obtain ⟨x17, h18, n9, g16, hf, e9⟩ := zcnE hf
              refine z_callLW (kc' := n9) (ks' := 6 * n9) CL (ML_tryMark (xl X) CL.2.2.2 (xD X) (xT X) (xlo X) hi g16) cw_L_122 ys_L_tryMark dL_call_134 rfl (by decide) ⟨by show 2 + _ = _; omega, by show 12 + _ = _; omega⟩ (Nat.le_of_ble_eq_true rfl) (st := []) rfl ?_
              exact z_ireturn C dL_call_137 (by cases hf; rfl)
            · refine z_ite hf (fun c hf => ?_) (fun c6 hf => ?_)
              · refine z_tswIn (k := 6) (off := 137) (tgt := 138) C c dL_call_1 (by decide) (by decide) ?_
                refine z_aload_n C dL_call_138 0 rfl rfl ?_
                refine z_iload_n C dL_call_139 2 rfl rfl ?_
                refine z_iload_n C dL_call_140 3 rfl rfl ?_
                obtain ⟨x20, h21, n9, g19, hf, e9⟩ := zcnE hf
                refine z_callLW (kc' := n9) (ks' := 6 * n9) CL (ML_tryLength (xl X) CL.2.2.2 (xD X) (xT X) (xlo X) hi g19) cw_L_126 ys_L_tryLength dL_call_141 rfl (by decide) ⟨by show 2 + _ = _; omega, by show 12 + _ = _; omega⟩ (Nat.le_of_ble_eq_true rfl) (st := []) rfl ?_
                exact z_ireturn C dL_call_144 (by cases hf; rfl)
              · refine z_ite hf (fun c hf => ?_) (fun c7 hf => ?_)
                · refine z_tswIn (k := 7) (off := 144) (tgt := 145) C c dL_call_1 (by decide) (by decide) ?_
                  refine z_aload_n C dL_call_145 0 rfl rfl ?_
                  refine z_iload_n C dL_call_146 2 rfl rfl ?_
                  refine z_iload_n C dL_call_147 3 rfl rfl ?_
                  refine z_iload C dL_call_148 4 rfl ?_
                  obtain ⟨x23, h24, n9, g22, hf, e9⟩ := zcnE hf
                  refine z_callLW (kc' := n9) (ks' := 6 * n9) CL (ML_trySign (xl X) CL.2.2.2 (xD X) (xT X) (xlo X) hi g22) cw_L_129 ys_L_trySign dL_call_150 rfl (by decide) ⟨by show 3 + _ = _; omega, by show 18 + _ = _; omega⟩ (Nat.le_of_ble_eq_true rfl) (st := []) rfl ?_
                  exact z_ireturn C dL_call_153 (by cases hf; rfl)
                · refine z_ite hf (fun c hf => ?_) (fun c8 hf => ?_)
                  · refine z_tswIn (k := 8) (off := 153) (tgt := 154) C c dL_call_1 (by decide) (by decide) ?_
                    refine z_aload_n C dL_call_154 0 rfl rfl ?_
                    refine z_iload_n C dL_call_155 2 rfl rfl ?_
                    refine z_iload_n C dL_call_156 3 rfl rfl ?_
                    refine z_iload C dL_call_157 4 rfl ?_
                    obtain ⟨x26, h27, n9, g25, hf, e9⟩ := zcnE hf
                    refine z_callLW (kc' := n9) (ks' := 6 * n9) CL (ML_tryAt (xl X) CL.2.2.2 (xD X) (xT X) (xlo X) hi g25) cw_L_133 ys_L_tryAt dL_call_159 rfl (by decide) ⟨by show 2 + _ = _; omega, by show 12 + _ = _; omega⟩ (Nat.le_of_ble_eq_true rfl) (st := []) rfl ?_
                    exact z_ireturn C dL_call_162 (by cases hf; rfl)
                  · refine z_ite hf (fun c hf => ?_) (fun c9 hf => ?_)
                    · refine z_tswIn (k := 9) (off := 162) (tgt := 163) C c dL_call_1 (by decide) (by decide) ?_
                      refine z_aload_n C dL_call_163 0 rfl rfl ?_
                      refine z_iload_n C dL_call_164 2 rfl rfl ?_
                      refine z_iload_n C dL_call_165 3 rfl rfl ?_
                      refine z_iload C dL_call_166 4 rfl ?_
                      obtain ⟨x29, h30, n9, g28, hf, e9⟩ := zcnE hf
                      refine z_callLW (kc' := n9) (ks' := 6 * n9) CL (ML_tryErase (xl X) CL.2.2.2 (xD X) (xT X) (xlo X) hi g28) cw_L_136 ys_L_tryErase dL_call_168 rfl (by decide) ⟨by show 1 + _ = _; omega, by show 6 + _ = _; omega⟩ (Nat.le_of_ble_eq_true rfl) (st := []) rfl ?_
                      exact z_ireturn C dL_call_171 (by cases hf; rfl)
                    · refine z_ite hf (fun c hf => ?_) (fun c10 hf => ?_)
                      · refine z_tswIn (k := 10) (off := 171) (tgt := 172) C c dL_call_1 (by decide) (by decide) ?_
                        refine z_aload_n C dL_call_172 0 rfl rfl ?_
                        refine z_iload_n C dL_call_173 2 rfl rfl ?_
                        refine z_iload_n C dL_call_174 3 rfl rfl ?_
                        refine z_iload C dL_call_175 4 rfl ?_
                        refine z_iload C dL_call_177 5 rfl ?_
                        obtain ⟨x32, h33, n9, g31, hf, e9⟩ := zcnE hf
                        refine z_callLW (kc' := n9) (ks' := 6 * n9) CL (ML_tryDecide (xl X) CL.2.2.2 (xD X) (xT X) (xlo X) hi g31) cw_L_139 ys_L_tryDecide dL_call_179 rfl (by decide) ⟨by show 3 + _ = _; omega, by show 18 + _ = _; omega⟩ (Nat.le_of_ble_eq_true rfl) (st := []) rfl ?_
                        exact z_ireturn C dL_call_182 (by cases hf; rfl)
                      · refine z_ite hf (fun c hf => ?_) (fun c11 hf => ?_)
                        · refine z_tswIn (k := 11) (off := 182) (tgt := 183) C c dL_call_1 (by decide) (by decide) ?_
                          refine z_aload_n C dL_call_183 0 rfl rfl ?_
                          refine z_iload_n C dL_call_184 2 rfl rfl ?_
                          refine z_iload_n C dL_call_185 3 rfl rfl ?_
                          refine z_iload C dL_call_186 4 rfl ?_
                          refine z_iload C dL_call_188 5 rfl ?_
                          obtain ⟨x35, h36, n9, g34, hf, e9⟩ := zcnE hf
                          refine z_callLW (kc' := n9) (ks' := 6 * n9) CL (ML_tryPen (xl X) CL.2.2.2 (xD X) (xT X) (xlo X) hi g34) cw_L_142 ys_L_tryPen dL_call_190 rfl (by decide) ⟨by show 4 + _ = _; omega, by show 24 + _ = _; omega⟩ (Nat.le_of_ble_eq_true rfl) (st := []) rfl ?_
                          exact z_ireturn C dL_call_193 (by cases hf; rfl)
                        · refine z_ite hf (fun c hf => ?_) (fun c12 hf => ?_)
                          · refine z_tswIn (k := 12) (off := 193) (tgt := 194) C c dL_call_1 (by decide) (by decide) ?_
                            refine z_aload_n C dL_call_194 0 rfl rfl ?_
                            refine z_iload_n C dL_call_195 2 rfl rfl ?_
                            obtain ⟨x38, h39, n9, g37, hf, e9⟩ := zcnE hf
                            refine z_callLW (kc' := n9) (ks' := 6 * n9) CL (ML_tryMargin (xl X) CL.2.2.2 (xD X) (xT X) (xlo X) hi g37) cw_L_145 ys_L_tryMargin dL_call_196 rfl (by decide) ⟨by show 1 + _ = _; omega, by show 6 + _ = _; omega⟩ (Nat.le_of_ble_eq_true rfl) (st := []) rfl ?_
                            exact z_ireturn C dL_call_199 (by cases hf; rfl)
                          · refine z_ite hf (fun c hf => ?_) (fun c13 hf => ?_)
                            · refine z_tswIn (k := 13) (off := 199) (tgt := 200) C c dL_call_1 (by decide) (by decide) ?_
                              refine z_aload_n C dL_call_200 0 rfl rfl ?_
                              refine z_iload_n C dL_call_201 2 rfl rfl ?_
                              obtain ⟨x41, h42, n9, g40, hf, e9⟩ := zcnE hf
                              refine z_callLW (kc' := n9) (ks' := 6 * n9) CL (ML_tryGap (xl X) CL.2.2.2 (xD X) (xT X) (xlo X) hi g40) cw_L_148 ys_L_tryGap dL_call_202 rfl (by decide) ⟨by show 1 + _ = _; omega, by show 6 + _ = _; omega⟩ (Nat.le_of_ble_eq_true rfl) (st := []) rfl ?_
                              exact z_ireturn C dL_call_205 (by cases hf; rfl)
                            · refine z_ite hf (fun c hf => ?_) (fun c14 hf => ?_)
                              · refine z_tswIn (k := 14) (off := 205) (tgt := 206) C c dL_call_1 (by decide) (by decide) ?_
                                refine z_aload_n C dL_call_206 0 rfl rfl ?_
                                obtain ⟨x44, h45, n9, g43, hf, e9⟩ := zcnE hf
                                refine z_callLW (kc' := n9) (ks' := 6 * n9) CL (ML_tryUndo (xl X) CL.2.2.2 (xD X) (xT X) (xlo X) hi g43) cw_L_151 ys_L_tryUndo dL_call_207 rfl (by decide) ⟨by show 1 + _ = _; omega, by show 6 + _ = _; omega⟩ (Nat.le_of_ble_eq_true rfl) (st := []) rfl ?_
                                exact z_ireturn C dL_call_210 (by cases hf; rfl)
                              · refine z_ite hf (fun c hf => ?_) (fun c15 hf => ?_)
                                · refine z_tswIn (k := 15) (off := 210) (tgt := 211) C c dL_call_1 (by decide) (by decide) ?_
                                  refine z_aload_n C dL_call_211 0 rfl rfl ?_
                                  refine z_iload_n C dL_call_212 2 rfl rfl ?_
                                  refine z_iload_n C dL_call_213 3 rfl rfl ?_
                                  obtain ⟨x47, h48, n9, g46, hf, e9⟩ := zcnE hf
                                  refine z_callLW (kc' := n9) (ks' := 6 * n9) CL (ML_tryCount (xl X) CL.2.2.2 (xD X) (xT X) (xlo X) hi g46) cw_L_154 ys_L_tryCount dL_call_214 rfl (by decide) ⟨by show 2 + _ = _; omega, by show 12 + _ = _; omega⟩ (Nat.le_of_ble_eq_true rfl) (st := []) rfl ?_
                                  exact z_ireturn C dL_call_217 (by cases hf; rfl)
                                · refine z_ite hf (fun c hf => ?_) (fun c16 hf => ?_)
                                  · refine z_tswIn (k := 16) (off := 217) (tgt := 218) C c dL_call_1 (by decide) (by decide) ?_
                                    refine z_aload_n C dL_call_218 0 rfl rfl ?_
                                    refine z_iload_n C dL_call_219 2 rfl rfl ?_
                                    obtain ⟨x50, h51, n9, g49, hf, e9⟩ := zcnE hf
                                    refine z_callLW (kc' := n9) (ks' := 6 * n9) CL (ML_tryBest (xl X) CL.2.2.2 (xD X) (xT X) (xlo X) hi g49) cw_L_157 ys_L_tryBest dL_call_220 rfl (by decide) ⟨by show 1 + _ = _; omega, by show 6 + _ = _; omega⟩ (Nat.le_of_ble_eq_true rfl) (st := []) rfl ?_
                                    exact z_ireturn C dL_call_223 (by cases hf; rfl)
                                  · refine z_ite hf (fun c hf => ?_) (fun c17 hf => ?_)
                                    · refine z_tswIn (k := 17) (off := 223) (tgt := 224) C c dL_call_1 (by decide) (by decide) ?_
                                      refine z_aload_n C dL_call_224 0 rfl rfl ?_
                                      refine z_iload_n C dL_call_225 2 rfl rfl ?_
                                      obtain ⟨x53, h54, n9, g52, hf, e9⟩ := zcnE hf
                                      refine z_callLW (kc' := n9) (ks' := 6 * n9) CL (ML_tryClears (xl X) CL.2.2.2 (xD X) (xT X) (xlo X) hi g52) cw_L_160 ys_L_tryClears dL_call_226 rfl (by decide) ⟨by show 1 + _ = _; omega, by show 6 + _ = _; omega⟩ (Nat.le_of_ble_eq_true rfl) (st := []) rfl ?_
                                      exact z_ireturn C dL_call_229 (by cases hf; rfl)
                                    · refine z_ite hf (fun c hf => ?_) (fun c18 hf => ?_)
                                      · refine z_tswIn (k := 18) (off := 229) (tgt := 230) C c dL_call_1 (by decide) (by decide) ?_
                                        refine z_aload_n C dL_call_230 0 rfl rfl ?_
                                        refine z_iload_n C dL_call_231 2 rfl rfl ?_
                                        refine z_iload_n C dL_call_232 3 rfl rfl ?_
                                        obtain ⟨x56, h57, n9, g55, hf, e9⟩ := zcnE hf
                                        refine z_callLW (kc' := n9) (ks' := 6 * n9) CL (ML_tryWith (xl X) CL.2.2.2 (xD X) (xT X) (xlo X) hi g55) cw_L_163 ys_L_tryWith dL_call_233 rfl (by decide) ⟨by show 2 + _ = _; omega, by show 12 + _ = _; omega⟩ (Nat.le_of_ble_eq_true rfl) (st := []) rfl ?_
                                        exact z_ireturn C dL_call_236 (by cases hf; rfl)
                                      · refine z_ite hf (fun c hf => ?_) (fun c19 hf => ?_)
                                        · refine z_tswIn (k := 19) (off := 236) (tgt := 237) C c dL_call_1 (by decide) (by decide) ?_
                                          refine z_aload_n C dL_call_237 0 rfl rfl ?_
                                          refine z_iload_n C dL_call_238 2 rfl rfl ?_
                                          obtain ⟨x59, h60, n9, g58, hf, e9⟩ := zcnE hf
                                          refine z_callLW (kc' := n9) (ks' := 6 * n9) CL (ML_trySave (xl X) CL.2.2.2 (xD X) (xT X) (xlo X) hi g58) cw_L_166 ys_L_trySave dL_call_239 rfl (by decide) ⟨by show 1 + _ = _; omega, by show 6 + _ = _; omega⟩ (Nat.le_of_ble_eq_true rfl) (st := []) rfl ?_
                                          exact z_ireturn C dL_call_242 (by cases hf; rfl)
                                        · refine z_tswOut (tgt := 243) C dL_call_1 (by have e0 := z_ne (i := 0) (by decide) c0; have e1 := z_ne (i := 1) (by decide) c1; have e2 := z_ne (i := 2) (by decide) c2; have e3 := z_ne (i := 3) (by decide) c3; have e4 := z_ne (i := 4) (by decide) c4; have e5 := z_ne (i := 5) (by decide) c5; have e6 := z_ne (i := 6) (by decide) c6; have e7 := z_ne (i := 7) (by decide) c7; have e8 := z_ne (i := 8) (by decide) c8; have e9 := z_ne (i := 9) (by decide) c9; have e10 := z_ne (i := 10) (by decide) c10; have e11 := z_ne (i := 11) (by decide) c11; have e12 := z_ne (i := 12) (by decide) c12; have e13 := z_ne (i := 13) (by decide) c13; have e14 := z_ne (i := 14) (by decide) c14; have e15 := z_ne (i := 15) (by decide) c15; have e16 := z_ne (i := 16) (by decide) c16; have e17 := z_ne (i := 17) (by decide) c17; have e18 := z_ne (i := 18) (by decide) c18; have e19 := z_ne (i := 19) (by decide) c19; omega) (by decide) ?_
                                          refine z_aload_n C dL_call_243 0 rfl rfl ?_
                                          refine z_iload_n C dL_call_244 2 rfl rfl ?_
                                          obtain ⟨x62, h63, n9, g61, hf, e9⟩ := zcnE hf
                                          refine z_callLW (kc' := n9) (ks' := 6 * n9) CL (ML_tryRestore (xl X) CL.2.2.2 (xD X) (xT X) (xlo X) hi g61) cw_L_169 ys_L_tryRestore dL_call_245 rfl (by decide) ⟨by show 2 + _ = _; omega, by show 12 + _ = _; omega⟩ (Nat.le_of_ble_eq_true rfl) (st := []) rfl ?_
                                          exact z_ireturn C dL_call_248 (by cases hf; rfl)
theorem ML_call (l : Launch) (hl9 : l.stackTraces = false) (D : va_G) (T : zT) (lo hi : Nat) {h : zH} {p0 : Nat} {p1 : Int32} {p2 : Int32} {p3 : Int32} {p4 : Int32} {p5 : Int32} {rv : Int32} {rh : zH} {n9 : Nat} (hf : FL_call T p0 p1 p2 p3 p4 p5 h = some (rv, rh, n9)) : zMW l yL_call (.code yL_call cL_call 6 (some .int) :: TW) ({ frames := 9, cells := n9, slots := 6 * n9, locals := 195 } : Room) D T lo [.ref p0, .int p1, .int p2, .int p3, .int p4, .int p5] hi h (some (.int rv), hi, rh) :=
  z_enterL hl9 (own := RL) (nm := "call") (lv := [(0, .ref p0), (1, .int p1), (2, .int p2), (3, .int p3), (4, .int p4), (5, .int p5)]) (by decide +kernel) rfl rfl (Nat.le_of_ble_eq_true rfl) rfl (fun _ _ _ _ _ _ _ _ C => BL_call C hf)
theorem dL_about_0 : decode cL_about 0 = .ok (.aload_n 0, 1) := by decide +kernel
theorem dL_about_1 : decode cL_about 1 = .ok (.iconst 2, 1) := by decide +kernel
theorem dL_about_2 : decode cL_about 2 = .ok (.iload_n 1, 1) := by decide +kernel
theorem dL_about_3 : decode cL_about 3 = .ok (.iconst 0, 1) := by decide +kernel
theorem dL_about_4 : decode cL_about 4 = .ok (.iconst 0, 1) := by decide +kernel
theorem dL_about_5 : decode cL_about 5 = .ok (.iconst 0, 1) := by decide +kernel
theorem dL_about_6 : decode cL_about 6 = .ok (.invokestatic 174, 3) := by decide +kernel
theorem dL_about_9 : decode cL_about 9 = .ok (.ireturn, 1) := by decide +kernel
def FL_about (T : zT) (p0 : Nat) (p1 : Int32) (h : zH) : Option (Int32 × zH × Nat) := zcl (FL_call T p0 2 p1 0 0 0 h) fun x2 h3 => some (x2, h3, 0)
set_option maxHeartbeats 4000000 in
set_option maxRecDepth 100000 in
theorem BL_about {X : zX} (CL : zCL X cL_about 2 RL "about" (some .int) 10 220) {hi : Nat} {h : zH} {p0 : Nat} {p1 : Int32} {rv : Int32} {rh : zH} {n9 : Nat} (hf : FL_about (xT X) p0 p1 h = some (rv, rh, n9)) : zW X 2 (zZ X false (some (.int rv), hi, rh)) n9 (6 * n9) false hi h 0 [(0, .ref p0), (1, .int p1)] [] := by
  have C := CL.1
  unfold FL_about at hf
  refine z_aload_n C dL_about_0 0 rfl rfl ?_
  refine z_iconst C (v := 2) dL_about_1 (by decide) ?_
  refine z_iload_n C dL_about_2 1 rfl rfl ?_
  refine z_iconst C (v := 0) dL_about_3 (by decide) ?_
  refine z_iconst C (v := 0) dL_about_4 (by decide) ?_
  refine z_iconst C (v := 0) dL_about_5 (by decide) ?_
  obtain ⟨x2, h3, m4, n9, g1, hf, e9⟩ := zclE hf
  refine z_callL (kc' := n9) (ks' := 6 * n9) CL (ML_call (xl X) CL.2.2.2 (xD X) (xT X) (xlo X) hi g1) cw_L_174 ys_L_call dL_about_6 rfl ⟨Nat.le_of_ble_eq_true rfl, Nat.le_of_ble_eq_true rfl⟩ ⟨by show m4 + _ = _; omega, by show 6 * m4 + _ = _; omega⟩ (Nat.le_of_ble_eq_true rfl) (st := []) rfl ?_
  exact z_ireturn C dL_about_9 (by cases hf; rfl)
theorem ML_about (l : Launch) (hl9 : l.stackTraces = false) (D : va_G) (T : zT) (lo hi : Nat) {h : zH} {p0 : Nat} {p1 : Int32} {rv : Int32} {rh : zH} {n9 : Nat} (hf : FL_about T p0 p1 h = some (rv, rh, n9)) : zMW l yL_about (.code yL_about cL_about 2 (some .int) :: TW) ({ frames := 10, cells := n9, slots := 6 * n9, locals := 220 } : Room) D T lo [.ref p0, .int p1] hi h (some (.int rv), hi, rh) :=
  z_enterL hl9 (own := RL) (nm := "about") (lv := [(0, .ref p0), (1, .int p1)]) (by decide +kernel) rfl rfl (Nat.le_of_ble_eq_true rfl) rfl (fun _ _ _ _ _ _ _ _ C => BL_about C hf)
