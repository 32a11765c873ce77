theorem mw_46 : (Jvm.Cond.initialized "CrossedSheetLaw") ∈ TW := TWm 46 (by decide +kernel) (by decide +kernel)
theorem mw_63 : (Jvm.Cond.classLink "CrossedSheetLaw" (8 : Nat) "CrossedSheet") ∈ TW := TWm 63 (by decide +kernel) (by decide +kernel)
theorem mw_64 : (Jvm.Cond.instantiable "CrossedSheet" (12 : Nat)) ∈ TW := TWm 64 (by decide +kernel) (by decide +kernel)
theorem mw_65 : (Jvm.Cond.methodLink "CrossedSheetLaw" (99 : Nat) ({ cls := "CrossedSheet", name := "<init>", desc := "()V" } : Jvm.MethodName)) ∈ TW := TWm 65 (by decide +kernel) (by decide +kernel)
theorem mw_66 : (Jvm.Cond.instanceMethod ({ cls := "CrossedSheet", name := "<init>", desc := "()V" } : Jvm.MethodName)) ∈ TW := TWm 66 (by decide +kernel) (by decide +kernel)
theorem mw_67 : (Jvm.Cond.code ({ cls := "CrossedSheet", name := "<init>", desc := "()V" } : Jvm.MethodName) prog_1_method_1_code (1 : Nat) (Option.none : Option Jvm.ClassFile.FieldType)) ∈ TW := TWm 67 (by decide +kernel) (by decide +kernel)
theorem mw_307 : (Jvm.Cond.methodLink "CrossedSheetLaw" (112 : Nat) ({ cls := "CrossedSheet", name := "clearText", desc := "()I" } : Jvm.MethodName)) ∈ TW := TWm 307 (by decide +kernel) (by decide +kernel)
theorem mw_308 : (Jvm.Cond.instanceMethod ({ cls := "CrossedSheet", name := "clearText", desc := "()I" } : Jvm.MethodName)) ∈ TW := TWm 308 (by decide +kernel) (by decide +kernel)
theorem mw_309 : (Jvm.Cond.selects "CrossedSheet" ({ cls := "CrossedSheet", name := "clearText", desc := "()I" } : Jvm.MethodName) ({ cls := "CrossedSheet", name := "clearText", desc := "()I" } : Jvm.MethodName)) ∈ TW := TWm 309 (by decide +kernel) (by decide +kernel)
theorem mw_310 : (Jvm.Cond.code ({ cls := "CrossedSheet", name := "clearText", desc := "()I" } : Jvm.MethodName) prog_1_method_3_code (2 : Nat) (Option.some Jvm.ClassFile.FieldType.int)) ∈ TW := TWm 310 (by decide +kernel) (by decide +kernel)
theorem mw_311 : (Jvm.Cond.methodLink "CrossedSheetLaw" (116 : Nat) ({ cls := "CrossedSheet", name := "errorPosition", desc := "()I" } : Jvm.MethodName)) ∈ TW := TWm 311 (by decide +kernel) (by decide +kernel)
theorem mw_312 : (Jvm.Cond.instanceMethod ({ cls := "CrossedSheet", name := "errorPosition", desc := "()I" } : Jvm.MethodName)) ∈ TW := TWm 312 (by decide +kernel) (by decide +kernel)
theorem mw_313 : (Jvm.Cond.selects "CrossedSheet" ({ cls := "CrossedSheet", name := "errorPosition", desc := "()I" } : Jvm.MethodName) ({ cls := "CrossedSheet", name := "errorPosition", desc := "()I" } : Jvm.MethodName)) ∈ TW := TWm 313 (by decide +kernel) (by decide +kernel)
theorem mw_314 : (Jvm.Cond.code ({ cls := "CrossedSheet", name := "errorPosition", desc := "()I" } : Jvm.MethodName) prog_1_method_4_code (1 : Nat) (Option.some Jvm.ClassFile.FieldType.int)) ∈ TW := TWm 314 (by decide +kernel) (by decide +kernel)
theorem mw_397 : (Jvm.Cond.methodLink "CrossedSheetLaw" (167 : Nat) ({ cls := "CrossedSheet", name := "turn", desc := "()I" } : Jvm.MethodName)) ∈ TW := TWm 397 (by decide +kernel) (by decide +kernel)
theorem mw_398 : (Jvm.Cond.instanceMethod ({ cls := "CrossedSheet", name := "turn", desc := "()I" } : Jvm.MethodName)) ∈ TW := TWm 398 (by decide +kernel) (by decide +kernel)
theorem mw_399 : (Jvm.Cond.selects "CrossedSheet" ({ cls := "CrossedSheet", name := "turn", desc := "()I" } : Jvm.MethodName) ({ cls := "CrossedSheet", name := "turn", desc := "()I" } : Jvm.MethodName)) ∈ TW := TWm 399 (by decide +kernel) (by decide +kernel)
theorem mw_400 : (Jvm.Cond.code ({ cls := "CrossedSheet", name := "turn", desc := "()I" } : Jvm.MethodName) prog_1_method_19_code (1 : Nat) (Option.some Jvm.ClassFile.FieldType.int)) ∈ TW := TWm 400 (by decide +kernel) (by decide +kernel)
theorem mw_482 : (Jvm.Cond.methodLink "CrossedSheetLaw" (180 : Nat) ({ cls := "CrossedSheet", name := "shared", desc := "()I" } : Jvm.MethodName)) ∈ TW := TWm 482 (by decide +kernel) (by decide +kernel)
theorem mw_483 : (Jvm.Cond.instanceMethod ({ cls := "CrossedSheet", name := "shared", desc := "()I" } : Jvm.MethodName)) ∈ TW := TWm 483 (by decide +kernel) (by decide +kernel)
theorem mw_484 : (Jvm.Cond.selects "CrossedSheet" ({ cls := "CrossedSheet", name := "shared", desc := "()I" } : Jvm.MethodName) ({ cls := "CrossedSheet", name := "shared", desc := "()I" } : Jvm.MethodName)) ∈ TW := TWm 484 (by decide +kernel) (by decide +kernel)
theorem mw_485 : (Jvm.Cond.code ({ cls := "CrossedSheet", name := "shared", desc := "()I" } : Jvm.MethodName) prog_1_method_22_code (3 : Nat) (Option.some Jvm.ClassFile.FieldType.int)) ∈ TW := TWm 485 (by decide +kernel) (by decide +kernel)
theorem mw_506 : (Jvm.Cond.methodLink "CrossedSheetLaw" (190 : Nat) ({ cls := "CrossedSheet", name := "greatestMargin", desc := "()I" } : Jvm.MethodName)) ∈ TW := TWm 506 (by decide +kernel) (by decide +kernel)
theorem mw_507 : (Jvm.Cond.instanceMethod ({ cls := "CrossedSheet", name := "greatestMargin", desc := "()I" } : Jvm.MethodName)) ∈ TW := TWm 507 (by decide +kernel) (by decide +kernel)
theorem mw_508 : (Jvm.Cond.selects "CrossedSheet" ({ cls := "CrossedSheet", name := "greatestMargin", desc := "()I" } : Jvm.MethodName) ({ cls := "CrossedSheet", name := "greatestMargin", desc := "()I" } : Jvm.MethodName)) ∈ TW := TWm 508 (by decide +kernel) (by decide +kernel)
theorem mw_509 : (Jvm.Cond.code ({ cls := "CrossedSheet", name := "greatestMargin", desc := "()I" } : Jvm.MethodName) prog_1_method_25_code (2 : Nat) (Option.some Jvm.ClassFile.FieldType.int)) ∈ TW := TWm 509 (by decide +kernel) (by decide +kernel)
theorem mw_516 : (Jvm.Cond.methodLink "CrossedSheetLaw" (103 : Nat) ({ cls := "CrossedSheetLaw", name := "append", desc := "(LCrossedSheet;I[J)I" } : Jvm.MethodName)) ∈ TW := TWm 516 (by decide +kernel) (by decide +kernel)
theorem mw_517 : (Jvm.Cond.static ({ cls := "CrossedSheetLaw", name := "append", desc := "(LCrossedSheet;I[J)I" } : Jvm.MethodName)) ∈ TW := TWm 517 (by decide +kernel) (by decide +kernel)
theorem mw_518 : (Jvm.Cond.codeWith ({ cls := "CrossedSheetLaw", name := "append", desc := "(LCrossedSheet;I[J)I" } : Jvm.MethodName) method_3_code (4 : Nat) (Option.some Jvm.ClassFile.FieldType.int) [((0 : Nat), (9 : Nat), (12 : Nat), (13 : Nat)), ((0 : Nat), (9 : Nat), (15 : Nat), (15 : Nat))]) ∈ TW := TWm 518 (by decide +kernel) (by decide +kernel)
theorem mw_613 : (Jvm.Cond.methodLink "CrossedSheetLaw" (120 : Nat) ({ cls := "CrossedSheetLaw", name := "load", desc := "(LCrossedSheet;[J)I" } : Jvm.MethodName)) ∈ TW := TWm 613 (by decide +kernel) (by decide +kernel)
theorem mw_614 : (Jvm.Cond.static ({ cls := "CrossedSheetLaw", name := "load", desc := "(LCrossedSheet;[J)I" } : Jvm.MethodName)) ∈ TW := TWm 614 (by decide +kernel) (by decide +kernel)
theorem mw_615 : (Jvm.Cond.codeWith ({ cls := "CrossedSheetLaw", name := "load", desc := "(LCrossedSheet;[J)I" } : Jvm.MethodName) method_4_code (3 : Nat) (Option.some Jvm.ClassFile.FieldType.int) [((0 : Nat), (8 : Nat), (11 : Nat), (15 : Nat))]) ∈ TW := TWm 615 (by decide +kernel) (by decide +kernel)
theorem mw_634 : (Jvm.Cond.methodLink "CrossedSheetLaw" (124 : Nat) ({ cls := "CrossedSheetLaw", name := "about", desc := "(LCrossedSheet;I[J)I" } : Jvm.MethodName)) ∈ TW := TWm 634 (by decide +kernel) (by decide +kernel)
theorem mw_635 : (Jvm.Cond.static ({ cls := "CrossedSheetLaw", name := "about", desc := "(LCrossedSheet;I[J)I" } : Jvm.MethodName)) ∈ TW := TWm 635 (by decide +kernel) (by decide +kernel)
theorem mw_636 : (Jvm.Cond.codeWith ({ cls := "CrossedSheetLaw", name := "about", desc := "(LCrossedSheet;I[J)I" } : Jvm.MethodName) method_5_code (4 : Nat) (Option.some Jvm.ClassFile.FieldType.int) [((0 : Nat), (9 : Nat), (12 : Nat), (13 : Nat))]) ∈ TW := TWm 636 (by decide +kernel) (by decide +kernel)
theorem mw_649 : (Jvm.Cond.methodLink "CrossedSheetLaw" (127 : Nat) ({ cls := "CrossedSheetLaw", name := "letter", desc := "(LCrossedSheet;II[J)I" } : Jvm.MethodName)) ∈ TW := TWm 649 (by decide +kernel) (by decide +kernel)
theorem mw_650 : (Jvm.Cond.static ({ cls := "CrossedSheetLaw", name := "letter", desc := "(LCrossedSheet;II[J)I" } : Jvm.MethodName)) ∈ TW := TWm 650 (by decide +kernel) (by decide +kernel)
theorem mw_651 : (Jvm.Cond.codeWith ({ cls := "CrossedSheetLaw", name := "letter", desc := "(LCrossedSheet;II[J)I" } : Jvm.MethodName) method_6_code (5 : Nat) (Option.some Jvm.ClassFile.FieldType.int) [((0 : Nat), (10 : Nat), (13 : Nat), (28 : Nat)), ((0 : Nat), (10 : Nat), (17 : Nat), (13 : Nat))]) ∈ TW := TWm 651 (by decide +kernel) (by decide +kernel)
theorem mw_684 : (Jvm.Cond.methodLink "CrossedSheetLaw" (131 : Nat) ({ cls := "CrossedSheetLaw", name := "marks", desc := "(LCrossedSheet;II[J)I" } : Jvm.MethodName)) ∈ TW := TWm 684 (by decide +kernel) (by decide +kernel)
theorem mw_685 : (Jvm.Cond.static ({ cls := "CrossedSheetLaw", name := "marks", desc := "(LCrossedSheet;II[J)I" } : Jvm.MethodName)) ∈ TW := TWm 685 (by decide +kernel) (by decide +kernel)
theorem mw_686 : (Jvm.Cond.codeWith ({ cls := "CrossedSheetLaw", name := "marks", desc := "(LCrossedSheet;II[J)I" } : Jvm.MethodName) method_7_code (5 : Nat) (Option.some Jvm.ClassFile.FieldType.int) [((0 : Nat), (10 : Nat), (13 : Nat), (28 : Nat))]) ∈ TW := TWm 686 (by decide +kernel) (by decide +kernel)
theorem mw_698 : (Jvm.Cond.methodLink "CrossedSheetLaw" (134 : Nat) ({ cls := "CrossedSheetLaw", name := "mark", desc := "(LCrossedSheet;IIII[J)I" } : Jvm.MethodName)) ∈ TW := TWm 698 (by decide +kernel) (by decide +kernel)
theorem mw_699 : (Jvm.Cond.static ({ cls := "CrossedSheetLaw", name := "mark", desc := "(LCrossedSheet;IIII[J)I" } : Jvm.MethodName)) ∈ TW := TWm 699 (by decide +kernel) (by decide +kernel)
theorem mw_700 : (Jvm.Cond.codeWith ({ cls := "CrossedSheetLaw", name := "mark", desc := "(LCrossedSheet;IIII[J)I" } : Jvm.MethodName) method_8_code (7 : Nat) (Option.some Jvm.ClassFile.FieldType.int) [((0 : Nat), (14 : Nat), (17 : Nat), (28 : Nat)), ((0 : Nat), (14 : Nat), (21 : Nat), (13 : Nat))]) ∈ TW := TWm 700 (by decide +kernel) (by decide +kernel)
theorem mw_721 : (Jvm.Cond.methodLink "CrossedSheetLaw" (138 : Nat) ({ cls := "CrossedSheetLaw", name := "wordLength", desc := "(LCrossedSheet;II[J)I" } : Jvm.MethodName)) ∈ TW := TWm 721 (by decide +kernel) (by decide +kernel)
theorem mw_722 : (Jvm.Cond.static ({ cls := "CrossedSheetLaw", name := "wordLength", desc := "(LCrossedSheet;II[J)I" } : Jvm.MethodName)) ∈ TW := TWm 722 (by decide +kernel) (by decide +kernel)
theorem mw_723 : (Jvm.Cond.codeWith ({ cls := "CrossedSheetLaw", name := "wordLength", desc := "(LCrossedSheet;II[J)I" } : Jvm.MethodName) method_9_code (5 : Nat) (Option.some Jvm.ClassFile.FieldType.int) [((0 : Nat), (10 : Nat), (13 : Nat), (28 : Nat))]) ∈ TW := TWm 723 (by decide +kernel) (by decide +kernel)
theorem mw_735 : (Jvm.Cond.methodLink "CrossedSheetLaw" (141 : Nat) ({ cls := "CrossedSheetLaw", name := "sign", desc := "(LCrossedSheet;III[J)I" } : Jvm.MethodName)) ∈ TW := TWm 735 (by decide +kernel) (by decide +kernel)
theorem mw_736 : (Jvm.Cond.static ({ cls := "CrossedSheetLaw", name := "sign", desc := "(LCrossedSheet;III[J)I" } : Jvm.MethodName)) ∈ TW := TWm 736 (by decide +kernel) (by decide +kernel)
theorem mw_737 : (Jvm.Cond.codeWith ({ cls := "CrossedSheetLaw", name := "sign", desc := "(LCrossedSheet;III[J)I" } : Jvm.MethodName) method_10_code (6 : Nat) (Option.some Jvm.ClassFile.FieldType.int) [((0 : Nat), (12 : Nat), (15 : Nat), (28 : Nat)), ((0 : Nat), (12 : Nat), (19 : Nat), (13 : Nat))]) ∈ TW := TWm 737 (by decide +kernel) (by decide +kernel)
theorem mw_744 : (Jvm.Cond.methodLink "CrossedSheetLaw" (145 : Nat) ({ cls := "CrossedSheetLaw", name := "wordAt", desc := "(LCrossedSheet;III[J)I" } : Jvm.MethodName)) ∈ TW := TWm 744 (by decide +kernel) (by decide +kernel)
theorem mw_745 : (Jvm.Cond.static ({ cls := "CrossedSheetLaw", name := "wordAt", desc := "(LCrossedSheet;III[J)I" } : Jvm.MethodName)) ∈ TW := TWm 745 (by decide +kernel) (by decide +kernel)
theorem mw_746 : (Jvm.Cond.codeWith ({ cls := "CrossedSheetLaw", name := "wordAt", desc := "(LCrossedSheet;III[J)I" } : Jvm.MethodName) method_11_code (6 : Nat) (Option.some Jvm.ClassFile.FieldType.int) [((0 : Nat), (12 : Nat), (15 : Nat), (28 : Nat))]) ∈ TW := TWm 746 (by decide +kernel) (by decide +kernel)
theorem mw_751 : (Jvm.Cond.methodLink "CrossedSheetLaw" (148 : Nat) ({ cls := "CrossedSheetLaw", name := "write", desc := "(LCrossedSheet;IIIII[J)I" } : Jvm.MethodName)) ∈ TW := TWm 751 (by decide +kernel) (by decide +kernel)
theorem mw_752 : (Jvm.Cond.static ({ cls := "CrossedSheetLaw", name := "write", desc := "(LCrossedSheet;IIIII[J)I" } : Jvm.MethodName)) ∈ TW := TWm 752 (by decide +kernel) (by decide +kernel)
theorem mw_753 : (Jvm.Cond.codeWith ({ cls := "CrossedSheetLaw", name := "write", desc := "(LCrossedSheet;IIIII[J)I" } : Jvm.MethodName) method_12_code (8 : Nat) (Option.some Jvm.ClassFile.FieldType.int) [((0 : Nat), (16 : Nat), (19 : Nat), (28 : Nat)), ((0 : Nat), (16 : Nat), (23 : Nat), (13 : Nat)), ((0 : Nat), (16 : Nat), (27 : Nat), (15 : Nat))]) ∈ TW := TWm 753 (by decide +kernel) (by decide +kernel)
theorem mw_761 : (Jvm.Cond.methodLink "CrossedSheetLaw" (152 : Nat) ({ cls := "CrossedSheetLaw", name := "erase", desc := "(LCrossedSheet;III[J)I" } : Jvm.MethodName)) ∈ TW := TWm 761 (by decide +kernel) (by decide +kernel)
theorem mw_762 : (Jvm.Cond.static ({ cls := "CrossedSheetLaw", name := "erase", desc := "(LCrossedSheet;III[J)I" } : Jvm.MethodName)) ∈ TW := TWm 762 (by decide +kernel) (by decide +kernel)
theorem mw_763 : (Jvm.Cond.codeWith ({ cls := "CrossedSheetLaw", name := "erase", desc := "(LCrossedSheet;III[J)I" } : Jvm.MethodName) method_13_code (6 : Nat) (Option.some Jvm.ClassFile.FieldType.int) [((0 : Nat), (12 : Nat), (15 : Nat), (28 : Nat))]) ∈ TW := TWm 763 (by decide +kernel) (by decide +kernel)
theorem mw_772 : (Jvm.Cond.methodLink "CrossedSheetLaw" (155 : Nat) ({ cls := "CrossedSheetLaw", name := "decide", desc := "(LCrossedSheet;IIII[J)I" } : Jvm.MethodName)) ∈ TW := TWm 772 (by decide +kernel) (by decide +kernel)
theorem mw_773 : (Jvm.Cond.static ({ cls := "CrossedSheetLaw", name := "decide", desc := "(LCrossedSheet;IIII[J)I" } : Jvm.MethodName)) ∈ TW := TWm 773 (by decide +kernel) (by decide +kernel)
theorem mw_774 : (Jvm.Cond.codeWith ({ cls := "CrossedSheetLaw", name := "decide", desc := "(LCrossedSheet;IIII[J)I" } : Jvm.MethodName) method_14_code (7 : Nat) (Option.some Jvm.ClassFile.FieldType.int) [((0 : Nat), (14 : Nat), (17 : Nat), (28 : Nat)), ((0 : Nat), (14 : Nat), (21 : Nat), (13 : Nat)), ((0 : Nat), (14 : Nat), (25 : Nat), (15 : Nat))]) ∈ TW := TWm 774 (by decide +kernel) (by decide +kernel)
theorem mw_792 : (Jvm.Cond.methodLink "CrossedSheetLaw" (158 : Nat) ({ cls := "CrossedSheetLaw", name := "setLetter", desc := "(LCrossedSheet;IIII[J)I" } : Jvm.MethodName)) ∈ TW := TWm 792 (by decide +kernel) (by decide +kernel)
theorem mw_793 : (Jvm.Cond.static ({ cls := "CrossedSheetLaw", name := "setLetter", desc := "(LCrossedSheet;IIII[J)I" } : Jvm.MethodName)) ∈ TW := TWm 793 (by decide +kernel) (by decide +kernel)
theorem mw_794 : (Jvm.Cond.codeWith ({ cls := "CrossedSheetLaw", name := "setLetter", desc := "(LCrossedSheet;IIII[J)I" } : Jvm.MethodName) method_15_code (7 : Nat) (Option.some Jvm.ClassFile.FieldType.int) [((0 : Nat), (14 : Nat), (17 : Nat), (28 : Nat)), ((0 : Nat), (14 : Nat), (21 : Nat), (13 : Nat))]) ∈ TW := TWm 794 (by decide +kernel) (by decide +kernel)
theorem mw_800 : (Jvm.Cond.methodLink "CrossedSheetLaw" (161 : Nat) ({ cls := "CrossedSheetLaw", name := "setMargin", desc := "(LCrossedSheet;I[J)I" } : Jvm.MethodName)) ∈ TW := TWm 800 (by decide +kernel) (by decide +kernel)
theorem mw_801 : (Jvm.Cond.static ({ cls := "CrossedSheetLaw", name := "setMargin", desc := "(LCrossedSheet;I[J)I" } : Jvm.MethodName)) ∈ TW := TWm 801 (by decide +kernel) (by decide +kernel)
theorem mw_802 : (Jvm.Cond.codeWith ({ cls := "CrossedSheetLaw", name := "setMargin", desc := "(LCrossedSheet;I[J)I" } : Jvm.MethodName) method_16_code (4 : Nat) (Option.some Jvm.ClassFile.FieldType.int) [((0 : Nat), (9 : Nat), (12 : Nat), (13 : Nat))]) ∈ TW := TWm 802 (by decide +kernel) (by decide +kernel)
theorem mw_807 : (Jvm.Cond.methodLink "CrossedSheetLaw" (164 : Nat) ({ cls := "CrossedSheetLaw", name := "setGap", desc := "(LCrossedSheet;I[J)I" } : Jvm.MethodName)) ∈ TW := TWm 807 (by decide +kernel) (by decide +kernel)
theorem mw_808 : (Jvm.Cond.static ({ cls := "CrossedSheetLaw", name := "setGap", desc := "(LCrossedSheet;I[J)I" } : Jvm.MethodName)) ∈ TW := TWm 808 (by decide +kernel) (by decide +kernel)
theorem mw_809 : (Jvm.Cond.codeWith ({ cls := "CrossedSheetLaw", name := "setGap", desc := "(LCrossedSheet;I[J)I" } : Jvm.MethodName) method_17_code (4 : Nat) (Option.some Jvm.ClassFile.FieldType.int) [((0 : Nat), (9 : Nat), (12 : Nat), (13 : Nat))]) ∈ TW := TWm 809 (by decide +kernel) (by decide +kernel)
theorem mw_814 : (Jvm.Cond.methodLink "CrossedSheetLaw" (171 : Nat) ({ cls := "CrossedSheetLaw", name := "undo", desc := "(LCrossedSheet;[J)I" } : Jvm.MethodName)) ∈ TW := TWm 814 (by decide +kernel) (by decide +kernel)
theorem mw_815 : (Jvm.Cond.static ({ cls := "CrossedSheetLaw", name := "undo", desc := "(LCrossedSheet;[J)I" } : Jvm.MethodName)) ∈ TW := TWm 815 (by decide +kernel) (by decide +kernel)
theorem mw_816 : (Jvm.Cond.codeWith ({ cls := "CrossedSheetLaw", name := "undo", desc := "(LCrossedSheet;[J)I" } : Jvm.MethodName) method_18_code (3 : Nat) (Option.some Jvm.ClassFile.FieldType.int) [((0 : Nat), (8 : Nat), (11 : Nat), (15 : Nat))]) ∈ TW := TWm 816 (by decide +kernel) (by decide +kernel)
theorem mw_835 : (Jvm.Cond.methodLink "CrossedSheetLaw" (176 : Nat) ({ cls := "CrossedSheetLaw", name := "find", desc := "(LCrossedSheet;IIJ[J)I" } : Jvm.MethodName)) ∈ TW := TWm 835 (by decide +kernel) (by decide +kernel)
theorem mw_836 : (Jvm.Cond.static ({ cls := "CrossedSheetLaw", name := "find", desc := "(LCrossedSheet;IIJ[J)I" } : Jvm.MethodName)) ∈ TW := TWm 836 (by decide +kernel) (by decide +kernel)
theorem mw_837 : (Jvm.Cond.codeWith ({ cls := "CrossedSheetLaw", name := "find", desc := "(LCrossedSheet;IIJ[J)I" } : Jvm.MethodName) method_19_code (7 : Nat) (Option.some Jvm.ClassFile.FieldType.int) [((0 : Nat), (12 : Nat), (15 : Nat), (28 : Nat)), ((0 : Nat), (12 : Nat), (19 : Nat), (13 : Nat))]) ∈ TW := TWm 837 (by decide +kernel) (by decide +kernel)
theorem mw_852 : (Jvm.Cond.methodLink "CrossedSheetLaw" (184 : Nat) ({ cls := "CrossedSheetLaw", name := "count", desc := "(LCrossedSheet;II[J)I" } : Jvm.MethodName)) ∈ TW := TWm 852 (by decide +kernel) (by decide +kernel)
theorem mw_853 : (Jvm.Cond.static ({ cls := "CrossedSheetLaw", name := "count", desc := "(LCrossedSheet;II[J)I" } : Jvm.MethodName)) ∈ TW := TWm 853 (by decide +kernel) (by decide +kernel)
theorem mw_854 : (Jvm.Cond.codeWith ({ cls := "CrossedSheetLaw", name := "count", desc := "(LCrossedSheet;II[J)I" } : Jvm.MethodName) method_20_code (5 : Nat) (Option.some Jvm.ClassFile.FieldType.int) [((0 : Nat), (10 : Nat), (13 : Nat), (28 : Nat)), ((0 : Nat), (10 : Nat), (17 : Nat), (13 : Nat))]) ∈ TW := TWm 854 (by decide +kernel) (by decide +kernel)
theorem mw_863 : (Jvm.Cond.methodLink "CrossedSheetLaw" (187 : Nat) ({ cls := "CrossedSheetLaw", name := "bestPen", desc := "(LCrossedSheet;I[J)I" } : Jvm.MethodName)) ∈ TW := TWm 863 (by decide +kernel) (by decide +kernel)
theorem mw_864 : (Jvm.Cond.static ({ cls := "CrossedSheetLaw", name := "bestPen", desc := "(LCrossedSheet;I[J)I" } : Jvm.MethodName)) ∈ TW := TWm 864 (by decide +kernel) (by decide +kernel)
theorem mw_865 : (Jvm.Cond.codeWith ({ cls := "CrossedSheetLaw", name := "bestPen", desc := "(LCrossedSheet;I[J)I" } : Jvm.MethodName) method_21_code (4 : Nat) (Option.some Jvm.ClassFile.FieldType.int) [((0 : Nat), (9 : Nat), (12 : Nat), (28 : Nat))]) ∈ TW := TWm 865 (by decide +kernel) (by decide +kernel)
theorem mw_874 : (Jvm.Cond.methodLink "CrossedSheetLaw" (194 : Nat) ({ cls := "CrossedSheetLaw", name := "bestDecision", desc := "(LCrossedSheet;I[J)I" } : Jvm.MethodName)) ∈ TW := TWm 874 (by decide +kernel) (by decide +kernel)
theorem mw_875 : (Jvm.Cond.static ({ cls := "CrossedSheetLaw", name := "bestDecision", desc := "(LCrossedSheet;I[J)I" } : Jvm.MethodName)) ∈ TW := TWm 875 (by decide +kernel) (by decide +kernel)
theorem mw_876 : (Jvm.Cond.codeWith ({ cls := "CrossedSheetLaw", name := "bestDecision", desc := "(LCrossedSheet;I[J)I" } : Jvm.MethodName) method_22_code (4 : Nat) (Option.some Jvm.ClassFile.FieldType.int) [((0 : Nat), (9 : Nat), (12 : Nat), (28 : Nat))]) ∈ TW := TWm 876 (by decide +kernel) (by decide +kernel)
theorem mw_887 : (Jvm.Cond.methodLink "CrossedSheetLaw" (197 : Nat) ({ cls := "CrossedSheetLaw", name := "wordsWith", desc := "(LCrossedSheet;II[J)I" } : Jvm.MethodName)) ∈ TW := TWm 887 (by decide +kernel) (by decide +kernel)
theorem mw_888 : (Jvm.Cond.static ({ cls := "CrossedSheetLaw", name := "wordsWith", desc := "(LCrossedSheet;II[J)I" } : Jvm.MethodName)) ∈ TW := TWm 888 (by decide +kernel) (by decide +kernel)
theorem mw_889 : (Jvm.Cond.codeWith ({ cls := "CrossedSheetLaw", name := "wordsWith", desc := "(LCrossedSheet;II[J)I" } : Jvm.MethodName) method_23_code (5 : Nat) (Option.some Jvm.ClassFile.FieldType.int) [((0 : Nat), (10 : Nat), (13 : Nat), (28 : Nat)), ((0 : Nat), (10 : Nat), (17 : Nat), (13 : Nat))]) ∈ TW := TWm 889 (by decide +kernel) (by decide +kernel)
theorem mw_894 : (Jvm.Cond.methodLink "CrossedSheetLaw" (200 : Nat) ({ cls := "CrossedSheetLaw", name := "runScript", desc := "(LCrossedSheet;IJ[J)I" } : Jvm.MethodName)) ∈ TW := TWm 894 (by decide +kernel) (by decide +kernel)
theorem mw_895 : (Jvm.Cond.static ({ cls := "CrossedSheetLaw", name := "runScript", desc := "(LCrossedSheet;IJ[J)I" } : Jvm.MethodName)) ∈ TW := TWm 895 (by decide +kernel) (by decide +kernel)
theorem mw_896 : (Jvm.Cond.codeWith ({ cls := "CrossedSheetLaw", name := "runScript", desc := "(LCrossedSheet;IJ[J)I" } : Jvm.MethodName) method_24_code (6 : Nat) (Option.some Jvm.ClassFile.FieldType.int) [((0 : Nat), (11 : Nat), (14 : Nat), (13 : Nat))]) ∈ TW := TWm 896 (by decide +kernel) (by decide +kernel)
theorem mw_932 : (Jvm.Cond.methodLink "CrossedSheetLaw" (204 : Nat) ({ cls := "CrossedSheetLaw", name := "simulate", desc := "(LCrossedSheet;JI[J)I" } : Jvm.MethodName)) ∈ TW := TWm 932 (by decide +kernel) (by decide +kernel)
theorem mw_933 : (Jvm.Cond.static ({ cls := "CrossedSheetLaw", name := "simulate", desc := "(LCrossedSheet;JI[J)I" } : Jvm.MethodName)) ∈ TW := TWm 933 (by decide +kernel) (by decide +kernel)
theorem mw_934 : (Jvm.Cond.codeWith ({ cls := "CrossedSheetLaw", name := "simulate", desc := "(LCrossedSheet;JI[J)I" } : Jvm.MethodName) method_25_code (6 : Nat) (Option.some Jvm.ClassFile.FieldType.int) [((0 : Nat), (11 : Nat), (14 : Nat), (13 : Nat))]) ∈ TW := TWm 934 (by decide +kernel) (by decide +kernel)
theorem mw_949 : (Jvm.Cond.methodLink "CrossedSheetLaw" (208 : Nat) ({ cls := "CrossedSheetLaw", name := "save", desc := "(LCrossedSheet;I[J)I" } : Jvm.MethodName)) ∈ TW := TWm 949 (by decide +kernel) (by decide +kernel)
theorem mw_950 : (Jvm.Cond.static ({ cls := "CrossedSheetLaw", name := "save", desc := "(LCrossedSheet;I[J)I" } : Jvm.MethodName)) ∈ TW := TWm 950 (by decide +kernel) (by decide +kernel)
theorem mw_951 : (Jvm.Cond.codeWith ({ cls := "CrossedSheetLaw", name := "save", desc := "(LCrossedSheet;I[J)I" } : Jvm.MethodName) method_26_code (4 : Nat) (Option.some Jvm.ClassFile.FieldType.int) [((0 : Nat), (9 : Nat), (12 : Nat), (28 : Nat))]) ∈ TW := TWm 951 (by decide +kernel) (by decide +kernel)
theorem mw_961 : (Jvm.Cond.methodLink "CrossedSheetLaw" (211 : Nat) ({ cls := "CrossedSheetLaw", name := "restore", desc := "(LCrossedSheet;I[J)I" } : Jvm.MethodName)) ∈ TW := TWm 961 (by decide +kernel) (by decide +kernel)
theorem mw_962 : (Jvm.Cond.static ({ cls := "CrossedSheetLaw", name := "restore", desc := "(LCrossedSheet;I[J)I" } : Jvm.MethodName)) ∈ TW := TWm 962 (by decide +kernel) (by decide +kernel)
theorem mw_963 : (Jvm.Cond.codeWith ({ cls := "CrossedSheetLaw", name := "restore", desc := "(LCrossedSheet;I[J)I" } : Jvm.MethodName) method_27_code (4 : Nat) (Option.some Jvm.ClassFile.FieldType.int) [((0 : Nat), (9 : Nat), (12 : Nat), (28 : Nat)), ((0 : Nat), (9 : Nat), (15 : Nat), (15 : Nat))]) ∈ TW := TWm 963 (by decide +kernel) (by decide +kernel)
theorem mw_971 : (Jvm.Cond.classLink "CrossedSheetLaw" (100 : Nat) "CrossedSheetModel") ∈ TW := TWm 971 (by decide +kernel) (by decide +kernel)
theorem mw_972 : (Jvm.Cond.instantiable "CrossedSheetModel" (19 : Nat)) ∈ TW := TWm 972 (by decide +kernel) (by decide +kernel)
theorem mw_973 : (Jvm.Cond.methodLink "CrossedSheetLaw" (102 : Nat) ({ cls := "CrossedSheetModel", name := "<init>", desc := "()V" } : Jvm.MethodName)) ∈ TW := TWm 973 (by decide +kernel) (by decide +kernel)
theorem mw_974 : (Jvm.Cond.instanceMethod ({ cls := "CrossedSheetModel", name := "<init>", desc := "()V" } : Jvm.MethodName)) ∈ TW := TWm 974 (by decide +kernel) (by decide +kernel)
theorem mw_975 : (Jvm.Cond.code ({ cls := "CrossedSheetModel", name := "<init>", desc := "()V" } : Jvm.MethodName) prog_9_method_1_code (1 : Nat) (Option.none : Option Jvm.ClassFile.FieldType)) ∈ TW := TWm 975 (by decide +kernel) (by decide +kernel)
theorem mw_1039 : (Jvm.Cond.methodLink "CrossedSheetLaw" (109 : Nat) ({ cls := "CrossedSheetModel", name := "thrown", desc := "()I" } : Jvm.MethodName)) ∈ TW := TWm 1039 (by decide +kernel) (by decide +kernel)
theorem mw_1040 : (Jvm.Cond.instanceMethod ({ cls := "CrossedSheetModel", name := "thrown", desc := "()I" } : Jvm.MethodName)) ∈ TW := TWm 1040 (by decide +kernel) (by decide +kernel)
theorem mw_1041 : (Jvm.Cond.selects "CrossedSheetModel" ({ cls := "CrossedSheetModel", name := "thrown", desc := "()I" } : Jvm.MethodName) ({ cls := "CrossedSheetModel", name := "thrown", desc := "()I" } : Jvm.MethodName)) ∈ TW := TWm 1041 (by decide +kernel) (by decide +kernel)
theorem mw_1042 : (Jvm.Cond.code ({ cls := "CrossedSheetModel", name := "thrown", desc := "()I" } : Jvm.MethodName) prog_9_method_2_code (1 : Nat) (Option.some Jvm.ClassFile.FieldType.int)) ∈ TW := TWm 1042 (by decide +kernel) (by decide +kernel)
theorem mw_1043 : (Jvm.Cond.methodLink "CrossedSheetLaw" (108 : Nat) ({ cls := "CrossedSheetModel", name := "append", desc := "(I)I" } : Jvm.MethodName)) ∈ TW := TWm 1043 (by decide +kernel) (by decide +kernel)
theorem mw_1044 : (Jvm.Cond.instanceMethod ({ cls := "CrossedSheetModel", name := "append", desc := "(I)I" } : Jvm.MethodName)) ∈ TW := TWm 1044 (by decide +kernel) (by decide +kernel)
theorem mw_1045 : (Jvm.Cond.selects "CrossedSheetModel" ({ cls := "CrossedSheetModel", name := "append", desc := "(I)I" } : Jvm.MethodName) ({ cls := "CrossedSheetModel", name := "append", desc := "(I)I" } : Jvm.MethodName)) ∈ TW := TWm 1045 (by decide +kernel) (by decide +kernel)
theorem mw_1046 : (Jvm.Cond.code ({ cls := "CrossedSheetModel", name := "append", desc := "(I)I" } : Jvm.MethodName) prog_9_method_30_code (2 : Nat) (Option.some Jvm.ClassFile.FieldType.int)) ∈ TW := TWm 1046 (by decide +kernel) (by decide +kernel)
theorem mw_1055 : (Jvm.Cond.methodLink "CrossedSheetLaw" (115 : Nat) ({ cls := "CrossedSheetModel", name := "clearText", desc := "()I" } : Jvm.MethodName)) ∈ TW := TWm 1055 (by decide +kernel) (by decide +kernel)
theorem mw_1056 : (Jvm.Cond.instanceMethod ({ cls := "CrossedSheetModel", name := "clearText", desc := "()I" } : Jvm.MethodName)) ∈ TW := TWm 1056 (by decide +kernel) (by decide +kernel)
theorem mw_1057 : (Jvm.Cond.selects "CrossedSheetModel" ({ cls := "CrossedSheetModel", name := "clearText", desc := "()I" } : Jvm.MethodName) ({ cls := "CrossedSheetModel", name := "clearText", desc := "()I" } : Jvm.MethodName)) ∈ TW := TWm 1057 (by decide +kernel) (by decide +kernel)
theorem mw_1058 : (Jvm.Cond.code ({ cls := "CrossedSheetModel", name := "clearText", desc := "()I" } : Jvm.MethodName) prog_9_method_31_code (2 : Nat) (Option.some Jvm.ClassFile.FieldType.int)) ∈ TW := TWm 1058 (by decide +kernel) (by decide +kernel)
theorem mw_1059 : (Jvm.Cond.methodLink "CrossedSheetLaw" (119 : Nat) ({ cls := "CrossedSheetModel", name := "errorPosition", desc := "()I" } : Jvm.MethodName)) ∈ TW := TWm 1059 (by decide +kernel) (by decide +kernel)
theorem mw_1060 : (Jvm.Cond.instanceMethod ({ cls := "CrossedSheetModel", name := "errorPosition", desc := "()I" } : Jvm.MethodName)) ∈ TW := TWm 1060 (by decide +kernel) (by decide +kernel)
theorem mw_1061 : (Jvm.Cond.selects "CrossedSheetModel" ({ cls := "CrossedSheetModel", name := "errorPosition", desc := "()I" } : Jvm.MethodName) ({ cls := "CrossedSheetModel", name := "errorPosition", desc := "()I" } : Jvm.MethodName)) ∈ TW := TWm 1061 (by decide +kernel) (by decide +kernel)
theorem mw_1062 : (Jvm.Cond.code ({ cls := "CrossedSheetModel", name := "errorPosition", desc := "()I" } : Jvm.MethodName) prog_9_method_42_code (1 : Nat) (Option.some Jvm.ClassFile.FieldType.int)) ∈ TW := TWm 1062 (by decide +kernel) (by decide +kernel)
theorem mw_1117 : (Jvm.Cond.methodLink "CrossedSheetLaw" (123 : Nat) ({ cls := "CrossedSheetModel", name := "load", desc := "()I" } : Jvm.MethodName)) ∈ TW := TWm 1117 (by decide +kernel) (by decide +kernel)
theorem mw_1118 : (Jvm.Cond.instanceMethod ({ cls := "CrossedSheetModel", name := "load", desc := "()I" } : Jvm.MethodName)) ∈ TW := TWm 1118 (by decide +kernel) (by decide +kernel)
theorem mw_1119 : (Jvm.Cond.selects "CrossedSheetModel" ({ cls := "CrossedSheetModel", name := "load", desc := "()I" } : Jvm.MethodName) ({ cls := "CrossedSheetModel", name := "load", desc := "()I" } : Jvm.MethodName)) ∈ TW := TWm 1119 (by decide +kernel) (by decide +kernel)
theorem mw_1120 : (Jvm.Cond.code ({ cls := "CrossedSheetModel", name := "load", desc := "()I" } : Jvm.MethodName) prog_9_method_43_code (1 : Nat) (Option.some Jvm.ClassFile.FieldType.int)) ∈ TW := TWm 1120 (by decide +kernel) (by decide +kernel)
theorem mw_1127 : (Jvm.Cond.methodLink "CrossedSheetLaw" (126 : Nat) ({ cls := "CrossedSheetModel", name := "about", desc := "(I)I" } : Jvm.MethodName)) ∈ TW := TWm 1127 (by decide +kernel) (by decide +kernel)
theorem mw_1128 : (Jvm.Cond.instanceMethod ({ cls := "CrossedSheetModel", name := "about", desc := "(I)I" } : Jvm.MethodName)) ∈ TW := TWm 1128 (by decide +kernel) (by decide +kernel)
theorem mw_1129 : (Jvm.Cond.selects "CrossedSheetModel" ({ cls := "CrossedSheetModel", name := "about", desc := "(I)I" } : Jvm.MethodName) ({ cls := "CrossedSheetModel", name := "about", desc := "(I)I" } : Jvm.MethodName)) ∈ TW := TWm 1129 (by decide +kernel) (by decide +kernel)
theorem mw_1130 : (Jvm.Cond.code ({ cls := "CrossedSheetModel", name := "about", desc := "(I)I" } : Jvm.MethodName) prog_9_method_45_code (2 : Nat) (Option.some Jvm.ClassFile.FieldType.int)) ∈ TW := TWm 1130 (by decide +kernel) (by decide +kernel)
theorem mw_1153 : (Jvm.Cond.methodLink "CrossedSheetLaw" (130 : Nat) ({ cls := "CrossedSheetModel", name := "letter", desc := "(II)I" } : Jvm.MethodName)) ∈ TW := TWm 1153 (by decide +kernel) (by decide +kernel)
theorem mw_1154 : (Jvm.Cond.instanceMethod ({ cls := "CrossedSheetModel", name := "letter", desc := "(II)I" } : Jvm.MethodName)) ∈ TW := TWm 1154 (by decide +kernel) (by decide +kernel)
theorem mw_1155 : (Jvm.Cond.selects "CrossedSheetModel" ({ cls := "CrossedSheetModel", name := "letter", desc := "(II)I" } : Jvm.MethodName) ({ cls := "CrossedSheetModel", name := "letter", desc := "(II)I" } : Jvm.MethodName)) ∈ TW := TWm 1155 (by decide +kernel) (by decide +kernel)
theorem mw_1156 : (Jvm.Cond.code ({ cls := "CrossedSheetModel", name := "letter", desc := "(II)I" } : Jvm.MethodName) prog_9_method_46_code (6 : Nat) (Option.some Jvm.ClassFile.FieldType.int)) ∈ TW := TWm 1156 (by decide +kernel) (by decide +kernel)
theorem mw_1176 : (Jvm.Cond.methodLink "CrossedSheetLaw" (133 : Nat) ({ cls := "CrossedSheetModel", name := "marks", desc := "(II)I" } : Jvm.MethodName)) ∈ TW := TWm 1176 (by decide +kernel) (by decide +kernel)
theorem mw_1177 : (Jvm.Cond.instanceMethod ({ cls := "CrossedSheetModel", name := "marks", desc := "(II)I" } : Jvm.MethodName)) ∈ TW := TWm 1177 (by decide +kernel) (by decide +kernel)
theorem mw_1178 : (Jvm.Cond.selects "CrossedSheetModel" ({ cls := "CrossedSheetModel", name := "marks", desc := "(II)I" } : Jvm.MethodName) ({ cls := "CrossedSheetModel", name := "marks", desc := "(II)I" } : Jvm.MethodName)) ∈ TW := TWm 1178 (by decide +kernel) (by decide +kernel)
theorem mw_1179 : (Jvm.Cond.code ({ cls := "CrossedSheetModel", name := "marks", desc := "(II)I" } : Jvm.MethodName) prog_9_method_47_code (3 : Nat) (Option.some Jvm.ClassFile.FieldType.int)) ∈ TW := TWm 1179 (by decide +kernel) (by decide +kernel)
theorem mw_1183 : (Jvm.Cond.methodLink "CrossedSheetLaw" (137 : Nat) ({ cls := "CrossedSheetModel", name := "mark", desc := "(IIII)I" } : Jvm.MethodName)) ∈ TW := TWm 1183 (by decide +kernel) (by decide +kernel)
theorem mw_1184 : (Jvm.Cond.instanceMethod ({ cls := "CrossedSheetModel", name := "mark", desc := "(IIII)I" } : Jvm.MethodName)) ∈ TW := TWm 1184 (by decide +kernel) (by decide +kernel)
theorem mw_1185 : (Jvm.Cond.selects "CrossedSheetModel" ({ cls := "CrossedSheetModel", name := "mark", desc := "(IIII)I" } : Jvm.MethodName) ({ cls := "CrossedSheetModel", name := "mark", desc := "(IIII)I" } : Jvm.MethodName)) ∈ TW := TWm 1185 (by decide +kernel) (by decide +kernel)
theorem mw_1186 : (Jvm.Cond.code ({ cls := "CrossedSheetModel", name := "mark", desc := "(IIII)I" } : Jvm.MethodName) prog_9_method_48_code (6 : Nat) (Option.some Jvm.ClassFile.FieldType.int)) ∈ TW := TWm 1186 (by decide +kernel) (by decide +kernel)
theorem mw_1191 : (Jvm.Cond.methodLink "CrossedSheetLaw" (140 : Nat) ({ cls := "CrossedSheetModel", name := "wordLength", desc := "(II)I" } : Jvm.MethodName)) ∈ TW := TWm 1191 (by decide +kernel) (by decide +kernel)
theorem mw_1192 : (Jvm.Cond.instanceMethod ({ cls := "CrossedSheetModel", name := "wordLength", desc := "(II)I" } : Jvm.MethodName)) ∈ TW := TWm 1192 (by decide +kernel) (by decide +kernel)
theorem mw_1193 : (Jvm.Cond.selects "CrossedSheetModel" ({ cls := "CrossedSheetModel", name := "wordLength", desc := "(II)I" } : Jvm.MethodName) ({ cls := "CrossedSheetModel", name := "wordLength", desc := "(II)I" } : Jvm.MethodName)) ∈ TW := TWm 1193 (by decide +kernel) (by decide +kernel)
theorem mw_1194 : (Jvm.Cond.code ({ cls := "CrossedSheetModel", name := "wordLength", desc := "(II)I" } : Jvm.MethodName) prog_9_method_50_code (3 : Nat) (Option.some Jvm.ClassFile.FieldType.int)) ∈ TW := TWm 1194 (by decide +kernel) (by decide +kernel)
theorem mw_1199 : (Jvm.Cond.methodLink "CrossedSheetLaw" (144 : Nat) ({ cls := "CrossedSheetModel", name := "sign", desc := "(III)I" } : Jvm.MethodName)) ∈ TW := TWm 1199 (by decide +kernel) (by decide +kernel)
theorem mw_1200 : (Jvm.Cond.instanceMethod ({ cls := "CrossedSheetModel", name := "sign", desc := "(III)I" } : Jvm.MethodName)) ∈ TW := TWm 1200 (by decide +kernel) (by decide +kernel)
theorem mw_1201 : (Jvm.Cond.selects "CrossedSheetModel" ({ cls := "CrossedSheetModel", name := "sign", desc := "(III)I" } : Jvm.MethodName) ({ cls := "CrossedSheetModel", name := "sign", desc := "(III)I" } : Jvm.MethodName)) ∈ TW := TWm 1201 (by decide +kernel) (by decide +kernel)
theorem mw_1202 : (Jvm.Cond.code ({ cls := "CrossedSheetModel", name := "sign", desc := "(III)I" } : Jvm.MethodName) prog_9_method_51_code (4 : Nat) (Option.some Jvm.ClassFile.FieldType.int)) ∈ TW := TWm 1202 (by decide +kernel) (by decide +kernel)
theorem mw_1203 : (Jvm.Cond.methodLink "CrossedSheetLaw" (147 : Nat) ({ cls := "CrossedSheetModel", name := "wordAt", desc := "(III)I" } : Jvm.MethodName)) ∈ TW := TWm 1203 (by decide +kernel) (by decide +kernel)
theorem mw_1204 : (Jvm.Cond.instanceMethod ({ cls := "CrossedSheetModel", name := "wordAt", desc := "(III)I" } : Jvm.MethodName)) ∈ TW := TWm 1204 (by decide +kernel) (by decide +kernel)
theorem mw_1205 : (Jvm.Cond.selects "CrossedSheetModel" ({ cls := "CrossedSheetModel", name := "wordAt", desc := "(III)I" } : Jvm.MethodName) ({ cls := "CrossedSheetModel", name := "wordAt", desc := "(III)I" } : Jvm.MethodName)) ∈ TW := TWm 1205 (by decide +kernel) (by decide +kernel)
theorem mw_1206 : (Jvm.Cond.code ({ cls := "CrossedSheetModel", name := "wordAt", desc := "(III)I" } : Jvm.MethodName) prog_9_method_52_code (4 : Nat) (Option.some Jvm.ClassFile.FieldType.int)) ∈ TW := TWm 1206 (by decide +kernel) (by decide +kernel)
theorem mw_1207 : (Jvm.Cond.methodLink "CrossedSheetLaw" (151 : Nat) ({ cls := "CrossedSheetModel", name := "write", desc := "(IIIII)I" } : Jvm.MethodName)) ∈ TW := TWm 1207 (by decide +kernel) (by decide +kernel)
theorem mw_1208 : (Jvm.Cond.instanceMethod ({ cls := "CrossedSheetModel", name := "write", desc := "(IIIII)I" } : Jvm.MethodName)) ∈ TW := TWm 1208 (by decide +kernel) (by decide +kernel)
theorem mw_1209 : (Jvm.Cond.selects "CrossedSheetModel" ({ cls := "CrossedSheetModel", name := "write", desc := "(IIIII)I" } : Jvm.MethodName) ({ cls := "CrossedSheetModel", name := "write", desc := "(IIIII)I" } : Jvm.MethodName)) ∈ TW := TWm 1209 (by decide +kernel) (by decide +kernel)
theorem mw_1210 : (Jvm.Cond.code ({ cls := "CrossedSheetModel", name := "write", desc := "(IIIII)I" } : Jvm.MethodName) prog_9_method_54_code (7 : Nat) (Option.some Jvm.ClassFile.FieldType.int)) ∈ TW := TWm 1210 (by decide +kernel) (by decide +kernel)
theorem mw_1218 : (Jvm.Cond.methodLink "CrossedSheetLaw" (154 : Nat) ({ cls := "CrossedSheetModel", name := "erase", desc := "(III)I" } : Jvm.MethodName)) ∈ TW := TWm 1218 (by decide +kernel) (by decide +kernel)
theorem mw_1219 : (Jvm.Cond.instanceMethod ({ cls := "CrossedSheetModel", name := "erase", desc := "(III)I" } : Jvm.MethodName)) ∈ TW := TWm 1219 (by decide +kernel) (by decide +kernel)
theorem mw_1220 : (Jvm.Cond.selects "CrossedSheetModel" ({ cls := "CrossedSheetModel", name := "erase", desc := "(III)I" } : Jvm.MethodName) ({ cls := "CrossedSheetModel", name := "erase", desc := "(III)I" } : Jvm.MethodName)) ∈ TW := TWm 1220 (by decide +kernel) (by decide +kernel)
theorem mw_1221 : (Jvm.Cond.code ({ cls := "CrossedSheetModel", name := "erase", desc := "(III)I" } : Jvm.MethodName) prog_9_method_55_code (4 : Nat) (Option.some Jvm.ClassFile.FieldType.int)) ∈ TW := TWm 1221 (by decide +kernel) (by decide +kernel)
theorem mw_1225 : (Jvm.Cond.methodLink "CrossedSheetLaw" (157 : Nat) ({ cls := "CrossedSheetModel", name := "decide", desc := "(IIII)I" } : Jvm.MethodName)) ∈ TW := TWm 1225 (by decide +kernel) (by decide +kernel)
theorem mw_1226 : (Jvm.Cond.instanceMethod ({ cls := "CrossedSheetModel", name := "decide", desc := "(IIII)I" } : Jvm.MethodName)) ∈ TW := TWm 1226 (by decide +kernel) (by decide +kernel)
theorem mw_1227 : (Jvm.Cond.selects "CrossedSheetModel" ({ cls := "CrossedSheetModel", name := "decide", desc := "(IIII)I" } : Jvm.MethodName) ({ cls := "CrossedSheetModel", name := "decide", desc := "(IIII)I" } : Jvm.MethodName)) ∈ TW := TWm 1227 (by decide +kernel) (by decide +kernel)
theorem mw_1228 : (Jvm.Cond.code ({ cls := "CrossedSheetModel", name := "decide", desc := "(IIII)I" } : Jvm.MethodName) prog_9_method_56_code (5 : Nat) (Option.some Jvm.ClassFile.FieldType.int)) ∈ TW := TWm 1228 (by decide +kernel) (by decide +kernel)
theorem mw_1236 : (Jvm.Cond.methodLink "CrossedSheetLaw" (160 : Nat) ({ cls := "CrossedSheetModel", name := "setLetter", desc := "(IIII)I" } : Jvm.MethodName)) ∈ TW := TWm 1236 (by decide +kernel) (by decide +kernel)
theorem mw_1237 : (Jvm.Cond.instanceMethod ({ cls := "CrossedSheetModel", name := "setLetter", desc := "(IIII)I" } : Jvm.MethodName)) ∈ TW := TWm 1237 (by decide +kernel) (by decide +kernel)
theorem mw_1238 : (Jvm.Cond.selects "CrossedSheetModel" ({ cls := "CrossedSheetModel", name := "setLetter", desc := "(IIII)I" } : Jvm.MethodName) ({ cls := "CrossedSheetModel", name := "setLetter", desc := "(IIII)I" } : Jvm.MethodName)) ∈ TW := TWm 1238 (by decide +kernel) (by decide +kernel)
theorem mw_1239 : (Jvm.Cond.code ({ cls := "CrossedSheetModel", name := "setLetter", desc := "(IIII)I" } : Jvm.MethodName) prog_9_method_58_code (5 : Nat) (Option.some Jvm.ClassFile.FieldType.int)) ∈ TW := TWm 1239 (by decide +kernel) (by decide +kernel)
theorem mw_1243 : (Jvm.Cond.methodLink "CrossedSheetLaw" (163 : Nat) ({ cls := "CrossedSheetModel", name := "setMargin", desc := "(I)I" } : Jvm.MethodName)) ∈ TW := TWm 1243 (by decide +kernel) (by decide +kernel)
theorem mw_1244 : (Jvm.Cond.instanceMethod ({ cls := "CrossedSheetModel", name := "setMargin", desc := "(I)I" } : Jvm.MethodName)) ∈ TW := TWm 1244 (by decide +kernel) (by decide +kernel)
theorem mw_1245 : (Jvm.Cond.selects "CrossedSheetModel" ({ cls := "CrossedSheetModel", name := "setMargin", desc := "(I)I" } : Jvm.MethodName) ({ cls := "CrossedSheetModel", name := "setMargin", desc := "(I)I" } : Jvm.MethodName)) ∈ TW := TWm 1245 (by decide +kernel) (by decide +kernel)
theorem mw_1246 : (Jvm.Cond.code ({ cls := "CrossedSheetModel", name := "setMargin", desc := "(I)I" } : Jvm.MethodName) prog_9_method_59_code (3 : Nat) (Option.some Jvm.ClassFile.FieldType.int)) ∈ TW := TWm 1246 (by decide +kernel) (by decide +kernel)
theorem mw_1247 : (Jvm.Cond.methodLink "CrossedSheetLaw" (166 : Nat) ({ cls := "CrossedSheetModel", name := "setGap", desc := "(I)I" } : Jvm.MethodName)) ∈ TW := TWm 1247 (by decide +kernel) (by decide +kernel)
theorem mw_1248 : (Jvm.Cond.instanceMethod ({ cls := "CrossedSheetModel", name := "setGap", desc := "(I)I" } : Jvm.MethodName)) ∈ TW := TWm 1248 (by decide +kernel) (by decide +kernel)
theorem mw_1249 : (Jvm.Cond.selects "CrossedSheetModel" ({ cls := "CrossedSheetModel", name := "setGap", desc := "(I)I" } : Jvm.MethodName) ({ cls := "CrossedSheetModel", name := "setGap", desc := "(I)I" } : Jvm.MethodName)) ∈ TW := TWm 1249 (by decide +kernel) (by decide +kernel)
theorem mw_1250 : (Jvm.Cond.code ({ cls := "CrossedSheetModel", name := "setGap", desc := "(I)I" } : Jvm.MethodName) prog_9_method_60_code (3 : Nat) (Option.some Jvm.ClassFile.FieldType.int)) ∈ TW := TWm 1250 (by decide +kernel) (by decide +kernel)
theorem mw_1251 : (Jvm.Cond.methodLink "CrossedSheetLaw" (170 : Nat) ({ cls := "CrossedSheetModel", name := "turn", desc := "()I" } : Jvm.MethodName)) ∈ TW := TWm 1251 (by decide +kernel) (by decide +kernel)
theorem mw_1252 : (Jvm.Cond.instanceMethod ({ cls := "CrossedSheetModel", name := "turn", desc := "()I" } : Jvm.MethodName)) ∈ TW := TWm 1252 (by decide +kernel) (by decide +kernel)
theorem mw_1253 : (Jvm.Cond.selects "CrossedSheetModel" ({ cls := "CrossedSheetModel", name := "turn", desc := "()I" } : Jvm.MethodName) ({ cls := "CrossedSheetModel", name := "turn", desc := "()I" } : Jvm.MethodName)) ∈ TW := TWm 1253 (by decide +kernel) (by decide +kernel)
theorem mw_1254 : (Jvm.Cond.code ({ cls := "CrossedSheetModel", name := "turn", desc := "()I" } : Jvm.MethodName) prog_9_method_61_code (1 : Nat) (Option.some Jvm.ClassFile.FieldType.int)) ∈ TW := TWm 1254 (by decide +kernel) (by decide +kernel)
theorem mw_1262 : (Jvm.Cond.methodLink "CrossedSheetLaw" (173 : Nat) ({ cls := "CrossedSheetModel", name := "undo", desc := "()I" } : Jvm.MethodName)) ∈ TW := TWm 1262 (by decide +kernel) (by decide +kernel)
theorem mw_1263 : (Jvm.Cond.instanceMethod ({ cls := "CrossedSheetModel", name := "undo", desc := "()I" } : Jvm.MethodName)) ∈ TW := TWm 1263 (by decide +kernel) (by decide +kernel)
theorem mw_1264 : (Jvm.Cond.selects "CrossedSheetModel" ({ cls := "CrossedSheetModel", name := "undo", desc := "()I" } : Jvm.MethodName) ({ cls := "CrossedSheetModel", name := "undo", desc := "()I" } : Jvm.MethodName)) ∈ TW := TWm 1264 (by decide +kernel) (by decide +kernel)
theorem mw_1265 : (Jvm.Cond.code ({ cls := "CrossedSheetModel", name := "undo", desc := "()I" } : Jvm.MethodName) prog_9_method_62_code (1 : Nat) (Option.some Jvm.ClassFile.FieldType.int)) ∈ TW := TWm 1265 (by decide +kernel) (by decide +kernel)
theorem mw_1266 : (Jvm.Cond.methodLink "CrossedSheetLaw" (179 : Nat) ({ cls := "CrossedSheetModel", name := "find", desc := "(IIJ)I" } : Jvm.MethodName)) ∈ TW := TWm 1266 (by decide +kernel) (by decide +kernel)
theorem mw_1267 : (Jvm.Cond.instanceMethod ({ cls := "CrossedSheetModel", name := "find", desc := "(IIJ)I" } : Jvm.MethodName)) ∈ TW := TWm 1267 (by decide +kernel) (by decide +kernel)
theorem mw_1268 : (Jvm.Cond.selects "CrossedSheetModel" ({ cls := "CrossedSheetModel", name := "find", desc := "(IIJ)I" } : Jvm.MethodName) ({ cls := "CrossedSheetModel", name := "find", desc := "(IIJ)I" } : Jvm.MethodName)) ∈ TW := TWm 1268 (by decide +kernel) (by decide +kernel)
theorem mw_1269 : (Jvm.Cond.code ({ cls := "CrossedSheetModel", name := "find", desc := "(IIJ)I" } : Jvm.MethodName) prog_9_method_66_code (7 : Nat) (Option.some Jvm.ClassFile.FieldType.int)) ∈ TW := TWm 1269 (by decide +kernel) (by decide +kernel)
theorem mw_1281 : (Jvm.Cond.methodLink "CrossedSheetLaw" (183 : Nat) ({ cls := "CrossedSheetModel", name := "shared", desc := "()I" } : Jvm.MethodName)) ∈ TW := TWm 1281 (by decide +kernel) (by decide +kernel)
theorem mw_1282 : (Jvm.Cond.instanceMethod ({ cls := "CrossedSheetModel", name := "shared", desc := "()I" } : Jvm.MethodName)) ∈ TW := TWm 1282 (by decide +kernel) (by decide +kernel)
theorem mw_1283 : (Jvm.Cond.selects "CrossedSheetModel" ({ cls := "CrossedSheetModel", name := "shared", desc := "()I" } : Jvm.MethodName) ({ cls := "CrossedSheetModel", name := "shared", desc := "()I" } : Jvm.MethodName)) ∈ TW := TWm 1283 (by decide +kernel) (by decide +kernel)
theorem mw_1284 : (Jvm.Cond.code ({ cls := "CrossedSheetModel", name := "shared", desc := "()I" } : Jvm.MethodName) prog_9_method_67_code (7 : Nat) (Option.some Jvm.ClassFile.FieldType.int)) ∈ TW := TWm 1284 (by decide +kernel) (by decide +kernel)
theorem mw_1285 : (Jvm.Cond.methodLink "CrossedSheetLaw" (186 : Nat) ({ cls := "CrossedSheetModel", name := "count", desc := "(II)I" } : Jvm.MethodName)) ∈ TW := TWm 1285 (by decide +kernel) (by decide +kernel)
theorem mw_1286 : (Jvm.Cond.instanceMethod ({ cls := "CrossedSheetModel", name := "count", desc := "(II)I" } : Jvm.MethodName)) ∈ TW := TWm 1286 (by decide +kernel) (by decide +kernel)
theorem mw_1287 : (Jvm.Cond.selects "CrossedSheetModel" ({ cls := "CrossedSheetModel", name := "count", desc := "(II)I" } : Jvm.MethodName) ({ cls := "CrossedSheetModel", name := "count", desc := "(II)I" } : Jvm.MethodName)) ∈ TW := TWm 1287 (by decide +kernel) (by decide +kernel)
theorem mw_1288 : (Jvm.Cond.code ({ cls := "CrossedSheetModel", name := "count", desc := "(II)I" } : Jvm.MethodName) prog_9_method_68_code (5 : Nat) (Option.some Jvm.ClassFile.FieldType.int)) ∈ TW := TWm 1288 (by decide +kernel) (by decide +kernel)
theorem mw_1289 : (Jvm.Cond.methodLink "CrossedSheetLaw" (189 : Nat) ({ cls := "CrossedSheetModel", name := "bestPen", desc := "(I)I" } : Jvm.MethodName)) ∈ TW := TWm 1289 (by decide +kernel) (by decide +kernel)
theorem mw_1290 : (Jvm.Cond.instanceMethod ({ cls := "CrossedSheetModel", name := "bestPen", desc := "(I)I" } : Jvm.MethodName)) ∈ TW := TWm 1290 (by decide +kernel) (by decide +kernel)
theorem mw_1291 : (Jvm.Cond.selects "CrossedSheetModel" ({ cls := "CrossedSheetModel", name := "bestPen", desc := "(I)I" } : Jvm.MethodName) ({ cls := "CrossedSheetModel", name := "bestPen", desc := "(I)I" } : Jvm.MethodName)) ∈ TW := TWm 1291 (by decide +kernel) (by decide +kernel)
theorem mw_1292 : (Jvm.Cond.code ({ cls := "CrossedSheetModel", name := "bestPen", desc := "(I)I" } : Jvm.MethodName) prog_9_method_69_code (7 : Nat) (Option.some Jvm.ClassFile.FieldType.int)) ∈ TW := TWm 1292 (by decide +kernel) (by decide +kernel)
theorem mw_1293 : (Jvm.Cond.methodLink "CrossedSheetLaw" (193 : Nat) ({ cls := "CrossedSheetModel", name := "greatestMargin", desc := "()I" } : Jvm.MethodName)) ∈ TW := TWm 1293 (by decide +kernel) (by decide +kernel)
theorem mw_1294 : (Jvm.Cond.instanceMethod ({ cls := "CrossedSheetModel", name := "greatestMargin", desc := "()I" } : Jvm.MethodName)) ∈ TW := TWm 1294 (by decide +kernel) (by decide +kernel)
theorem mw_1295 : (Jvm.Cond.selects "CrossedSheetModel" ({ cls := "CrossedSheetModel", name := "greatestMargin", desc := "()I" } : Jvm.MethodName) ({ cls := "CrossedSheetModel", name := "greatestMargin", desc := "()I" } : Jvm.MethodName)) ∈ TW := TWm 1295 (by decide +kernel) (by decide +kernel)
theorem mw_1296 : (Jvm.Cond.code ({ cls := "CrossedSheetModel", name := "greatestMargin", desc := "()I" } : Jvm.MethodName) prog_9_method_70_code (2 : Nat) (Option.some Jvm.ClassFile.FieldType.int)) ∈ TW := TWm 1296 (by decide +kernel) (by decide +kernel)
theorem mw_1297 : (Jvm.Cond.methodLink "CrossedSheetLaw" (196 : Nat) ({ cls := "CrossedSheetModel", name := "bestDecision", desc := "(I)I" } : Jvm.MethodName)) ∈ TW := TWm 1297 (by decide +kernel) (by decide +kernel)
theorem mw_1298 : (Jvm.Cond.instanceMethod ({ cls := "CrossedSheetModel", name := "bestDecision", desc := "(I)I" } : Jvm.MethodName)) ∈ TW := TWm 1298 (by decide +kernel) (by decide +kernel)
theorem mw_1299 : (Jvm.Cond.selects "CrossedSheetModel" ({ cls := "CrossedSheetModel", name := "bestDecision", desc := "(I)I" } : Jvm.MethodName) ({ cls := "CrossedSheetModel", name := "bestDecision", desc := "(I)I" } : Jvm.MethodName)) ∈ TW := TWm 1299 (by decide +kernel) (by decide +kernel)
theorem mw_1300 : (Jvm.Cond.code ({ cls := "CrossedSheetModel", name := "bestDecision", desc := "(I)I" } : Jvm.MethodName) prog_9_method_71_code (10 : Nat) (Option.some Jvm.ClassFile.FieldType.int)) ∈ TW := TWm 1300 (by decide +kernel) (by decide +kernel)
theorem mw_1301 : (Jvm.Cond.methodLink "CrossedSheetLaw" (199 : Nat) ({ cls := "CrossedSheetModel", name := "wordsWith", desc := "(II)I" } : Jvm.MethodName)) ∈ TW := TWm 1301 (by decide +kernel) (by decide +kernel)
theorem mw_1302 : (Jvm.Cond.instanceMethod ({ cls := "CrossedSheetModel", name := "wordsWith", desc := "(II)I" } : Jvm.MethodName)) ∈ TW := TWm 1302 (by decide +kernel) (by decide +kernel)
theorem mw_1303 : (Jvm.Cond.selects "CrossedSheetModel" ({ cls := "CrossedSheetModel", name := "wordsWith", desc := "(II)I" } : Jvm.MethodName) ({ cls := "CrossedSheetModel", name := "wordsWith", desc := "(II)I" } : Jvm.MethodName)) ∈ TW := TWm 1303 (by decide +kernel) (by decide +kernel)
theorem mw_1304 : (Jvm.Cond.code ({ cls := "CrossedSheetModel", name := "wordsWith", desc := "(II)I" } : Jvm.MethodName) prog_9_method_72_code (3 : Nat) (Option.some Jvm.ClassFile.FieldType.int)) ∈ TW := TWm 1304 (by decide +kernel) (by decide +kernel)
theorem mw_1305 : (Jvm.Cond.methodLink "CrossedSheetLaw" (203 : Nat) ({ cls := "CrossedSheetModel", name := "runScript", desc := "(IJ)I" } : Jvm.MethodName)) ∈ TW := TWm 1305 (by decide +kernel) (by decide +kernel)
theorem mw_1306 : (Jvm.Cond.instanceMethod ({ cls := "CrossedSheetModel", name := "runScript", desc := "(IJ)I" } : Jvm.MethodName)) ∈ TW := TWm 1306 (by decide +kernel) (by decide +kernel)
theorem mw_1307 : (Jvm.Cond.selects "CrossedSheetModel" ({ cls := "CrossedSheetModel", name := "runScript", desc := "(IJ)I" } : Jvm.MethodName) ({ cls := "CrossedSheetModel", name := "runScript", desc := "(IJ)I" } : Jvm.MethodName)) ∈ TW := TWm 1307 (by decide +kernel) (by decide +kernel)
theorem mw_1308 : (Jvm.Cond.code ({ cls := "CrossedSheetModel", name := "runScript", desc := "(IJ)I" } : Jvm.MethodName) prog_9_method_74_code (10 : Nat) (Option.some Jvm.ClassFile.FieldType.int)) ∈ TW := TWm 1308 (by decide +kernel) (by decide +kernel)
theorem mw_1316 : (Jvm.Cond.methodLink "CrossedSheetLaw" (207 : Nat) ({ cls := "CrossedSheetModel", name := "simulate", desc := "(JI)I" } : Jvm.MethodName)) ∈ TW := TWm 1316 (by decide +kernel) (by decide +kernel)
theorem mw_1317 : (Jvm.Cond.instanceMethod ({ cls := "CrossedSheetModel", name := "simulate", desc := "(JI)I" } : Jvm.MethodName)) ∈ TW := TWm 1317 (by decide +kernel) (by decide +kernel)
theorem mw_1318 : (Jvm.Cond.selects "CrossedSheetModel" ({ cls := "CrossedSheetModel", name := "simulate", desc := "(JI)I" } : Jvm.MethodName) ({ cls := "CrossedSheetModel", name := "simulate", desc := "(JI)I" } : Jvm.MethodName)) ∈ TW := TWm 1318 (by decide +kernel) (by decide +kernel)
theorem mw_1319 : (Jvm.Cond.code ({ cls := "CrossedSheetModel", name := "simulate", desc := "(JI)I" } : Jvm.MethodName) prog_9_method_75_code (9 : Nat) (Option.some Jvm.ClassFile.FieldType.int)) ∈ TW := TWm 1319 (by decide +kernel) (by decide +kernel)
theorem mw_1324 : (Jvm.Cond.methodLink "CrossedSheetLaw" (210 : Nat) ({ cls := "CrossedSheetModel", name := "save", desc := "(I)I" } : Jvm.MethodName)) ∈ TW := TWm 1324 (by decide +kernel) (by decide +kernel)
theorem mw_1325 : (Jvm.Cond.instanceMethod ({ cls := "CrossedSheetModel", name := "save", desc := "(I)I" } : Jvm.MethodName)) ∈ TW := TWm 1325 (by decide +kernel) (by decide +kernel)
theorem mw_1326 : (Jvm.Cond.selects "CrossedSheetModel" ({ cls := "CrossedSheetModel", name := "save", desc := "(I)I" } : Jvm.MethodName) ({ cls := "CrossedSheetModel", name := "save", desc := "(I)I" } : Jvm.MethodName)) ∈ TW := TWm 1326 (by decide +kernel) (by decide +kernel)
theorem mw_1327 : (Jvm.Cond.code ({ cls := "CrossedSheetModel", name := "save", desc := "(I)I" } : Jvm.MethodName) prog_9_method_76_code (2 : Nat) (Option.some Jvm.ClassFile.FieldType.int)) ∈ TW := TWm 1327 (by decide +kernel) (by decide +kernel)
theorem mw_1328 : (Jvm.Cond.methodLink "CrossedSheetLaw" (213 : Nat) ({ cls := "CrossedSheetModel", name := "restore", desc := "(I)I" } : Jvm.MethodName)) ∈ TW := TWm 1328 (by decide +kernel) (by decide +kernel)
theorem mw_1329 : (Jvm.Cond.instanceMethod ({ cls := "CrossedSheetModel", name := "restore", desc := "(I)I" } : Jvm.MethodName)) ∈ TW := TWm 1329 (by decide +kernel) (by decide +kernel)
theorem mw_1330 : (Jvm.Cond.selects "CrossedSheetModel" ({ cls := "CrossedSheetModel", name := "restore", desc := "(I)I" } : Jvm.MethodName) ({ cls := "CrossedSheetModel", name := "restore", desc := "(I)I" } : Jvm.MethodName)) ∈ TW := TWm 1330 (by decide +kernel) (by decide +kernel)
theorem mw_1331 : (Jvm.Cond.code ({ cls := "CrossedSheetModel", name := "restore", desc := "(I)I" } : Jvm.MethodName) prog_9_method_77_code (2 : Nat) (Option.some Jvm.ClassFile.FieldType.int)) ∈ TW := TWm 1331 (by decide +kernel) (by decide +kernel)
theorem mw_1332 : (Jvm.Cond.constantLong "CrossedSheetLaw" (174 : Nat) (4294967295 : Int64)) ∈ TW := TWm 1332 (by decide +kernel) (by decide +kernel)
theorem mw_1333 : (Jvm.Cond.arrayClass Jvm.ClassFile.FieldType.long) ∈ TW := TWm 1333 (by decide +kernel) (by decide +kernel)
theorem ys_L_about : yL_about.cls ≠ "java/lang/invoke/MethodHandle" ∧ yL_about.cls ≠ "java/lang/invoke/VarHandle" ∧ (parseMethodDescriptor yL_about.desc).map (fun d => d.parameters.length) = some 3 := by decide +kernel
theorem ys_L_append : yL_append.cls ≠ "java/lang/invoke/MethodHandle" ∧ yL_append.cls ≠ "java/lang/invoke/VarHandle" ∧ (parseMethodDescriptor yL_append.desc).map (fun d => d.parameters.length) = some 3 := by decide +kernel
theorem ys_L_bestDecision : yL_bestDecision.cls ≠ "java/lang/invoke/MethodHandle" ∧ yL_bestDecision.cls ≠ "java/lang/invoke/VarHandle" ∧ (parseMethodDescriptor yL_bestDecision.desc).map (fun d => d.parameters.length) = some 3 := by decide +kernel
theorem ys_L_bestPen : yL_bestPen.cls ≠ "java/lang/invoke/MethodHandle" ∧ yL_bestPen.cls ≠ "java/lang/invoke/VarHandle" ∧ (parseMethodDescriptor yL_bestPen.desc).map (fun d => d.parameters.length) = some 3 := by decide +kernel
theorem ys_L_count : yL_count.cls ≠ "java/lang/invoke/MethodHandle" ∧ yL_count.cls ≠ "java/lang/invoke/VarHandle" ∧ (parseMethodDescriptor yL_count.desc).map (fun d => d.parameters.length) = some 4 := by decide +kernel
theorem ys_L_decide : yL_decide.cls ≠ "java/lang/invoke/MethodHandle" ∧ yL_decide.cls ≠ "java/lang/invoke/VarHandle" ∧ (parseMethodDescriptor yL_decide.desc).map (fun d => d.parameters.length) = some 6 := by decide +kernel
theorem ys_L_erase : yL_erase.cls ≠ "java/lang/invoke/MethodHandle" ∧ yL_erase.cls ≠ "java/lang/invoke/VarHandle" ∧ (parseMethodDescriptor yL_erase.desc).map (fun d => d.parameters.length) = some 5 := by decide +kernel
theorem ys_L_find : yL_find.cls ≠ "java/lang/invoke/MethodHandle" ∧ yL_find.cls ≠ "java/lang/invoke/VarHandle" ∧ (parseMethodDescriptor yL_find.desc).map (fun d => d.parameters.length) = some 5 := by decide +kernel
theorem ys_L_letter : yL_letter.cls ≠ "java/lang/invoke/MethodHandle" ∧ yL_letter.cls ≠ "java/lang/invoke/VarHandle" ∧ (parseMethodDescriptor yL_letter.desc).map (fun d => d.parameters.length) = some 4 := by decide +kernel
theorem ys_L_load : yL_load.cls ≠ "java/lang/invoke/MethodHandle" ∧ yL_load.cls ≠ "java/lang/invoke/VarHandle" ∧ (parseMethodDescriptor yL_load.desc).map (fun d => d.parameters.length) = some 2 := by decide +kernel
theorem ys_L_mark : yL_mark.cls ≠ "java/lang/invoke/MethodHandle" ∧ yL_mark.cls ≠ "java/lang/invoke/VarHandle" ∧ (parseMethodDescriptor yL_mark.desc).map (fun d => d.parameters.length) = some 6 := by decide +kernel
theorem ys_L_marks : yL_marks.cls ≠ "java/lang/invoke/MethodHandle" ∧ yL_marks.cls ≠ "java/lang/invoke/VarHandle" ∧ (parseMethodDescriptor yL_marks.desc).map (fun d => d.parameters.length) = some 4 := by decide +kernel
theorem ys_L_restore : yL_restore.cls ≠ "java/lang/invoke/MethodHandle" ∧ yL_restore.cls ≠ "java/lang/invoke/VarHandle" ∧ (parseMethodDescriptor yL_restore.desc).map (fun d => d.parameters.length) = some 3 := by decide +kernel
theorem ys_L_runScript : yL_runScript.cls ≠ "java/lang/invoke/MethodHandle" ∧ yL_runScript.cls ≠ "java/lang/invoke/VarHandle" ∧ (parseMethodDescriptor yL_runScript.desc).map (fun d => d.parameters.length) = some 4 := by decide +kernel
theorem ys_L_save : yL_save.cls ≠ "java/lang/invoke/MethodHandle" ∧ yL_save.cls ≠ "java/lang/invoke/VarHandle" ∧ (parseMethodDescriptor yL_save.desc).map (fun d => d.parameters.length) = some 3 := by decide +kernel
theorem ys_L_setGap : yL_setGap.cls ≠ "java/lang/invoke/MethodHandle" ∧ yL_setGap.cls ≠ "java/lang/invoke/VarHandle" ∧ (parseMethodDescriptor yL_setGap.desc).map (fun d => d.parameters.length) = some 3 := by decide +kernel
theorem ys_L_setLetter : yL_setLetter.cls ≠ "java/lang/invoke/MethodHandle" ∧ yL_setLetter.cls ≠ "java/lang/invoke/VarHandle" ∧ (parseMethodDescriptor yL_setLetter.desc).map (fun d => d.parameters.length) = some 6 := by decide +kernel
theorem ys_L_setMargin : yL_setMargin.cls ≠ "java/lang/invoke/MethodHandle" ∧ yL_setMargin.cls ≠ "java/lang/invoke/VarHandle" ∧ (parseMethodDescriptor yL_setMargin.desc).map (fun d => d.parameters.length) = some 3 := by decide +kernel
theorem ys_L_sign : yL_sign.cls ≠ "java/lang/invoke/MethodHandle" ∧ yL_sign.cls ≠ "java/lang/invoke/VarHandle" ∧ (parseMethodDescriptor yL_sign.desc).map (fun d => d.parameters.length) = some 5 := by decide +kernel
theorem ys_L_simulate : yL_simulate.cls ≠ "java/lang/invoke/MethodHandle" ∧ yL_simulate.cls ≠ "java/lang/invoke/VarHandle" ∧ (parseMethodDescriptor yL_simulate.desc).map (fun d => d.parameters.length) = some 4 := by decide +kernel
theorem ys_L_undo : yL_undo.cls ≠ "java/lang/invoke/MethodHandle" ∧ yL_undo.cls ≠ "java/lang/invoke/VarHandle" ∧ (parseMethodDescriptor yL_undo.desc).map (fun d => d.parameters.length) = some 2 := by decide +kernel
theorem ys_L_wordAt : yL_wordAt.cls ≠ "java/lang/invoke/MethodHandle" ∧ yL_wordAt.cls ≠ "java/lang/invoke/VarHandle" ∧ (parseMethodDescriptor yL_wordAt.desc).map (fun d => d.parameters.length) = some 5 := by decide +kernel
theorem ys_L_wordLength : yL_wordLength.cls ≠ "java/lang/invoke/MethodHandle" ∧ yL_wordLength.cls ≠ "java/lang/invoke/VarHandle" ∧ (parseMethodDescriptor yL_wordLength.desc).map (fun d => d.parameters.length) = some 4 := by decide +kernel
theorem ys_L_wordsWith : yL_wordsWith.cls ≠ "java/lang/invoke/MethodHandle" ∧ yL_wordsWith.cls ≠ "java/lang/invoke/VarHandle" ∧ (parseMethodDescriptor yL_wordsWith.desc).map (fun d => d.parameters.length) = some 4 := by decide +kernel
theorem ys_L_write : yL_write.cls ≠ "java/lang/invoke/MethodHandle" ∧ yL_write.cls ≠ "java/lang/invoke/VarHandle" ∧ (parseMethodDescriptor yL_write.desc).map (fun d => d.parameters.length) = some 7 := by decide +kernel
theorem yv_X6_clearText : yX6_clearText.cls = RX6 ∧ yX6_clearText.cls ≠ "java/lang/invoke/MethodHandle" ∧ yX6_clearText.cls ≠ "java/lang/invoke/VarHandle" ∧ (parseMethodDescriptor yX6_clearText.desc).map (fun d => d.parameters.length) = some 0 := by decide +kernel
theorem yv_X6_errorPosition : yX6_errorPosition.cls = RX6 ∧ yX6_errorPosition.cls ≠ "java/lang/invoke/MethodHandle" ∧ yX6_errorPosition.cls ≠ "java/lang/invoke/VarHandle" ∧ (parseMethodDescriptor yX6_errorPosition.desc).map (fun d => d.parameters.length) = some 0 := by decide +kernel
theorem yv_X6_greatestMargin : yX6_greatestMargin.cls = RX6 ∧ yX6_greatestMargin.cls ≠ "java/lang/invoke/MethodHandle" ∧ yX6_greatestMargin.cls ≠ "java/lang/invoke/VarHandle" ∧ (parseMethodDescriptor yX6_greatestMargin.desc).map (fun d => d.parameters.length) = some 0 := by decide +kernel
theorem ys_X6_init : yX6_init.cls ≠ "java/lang/invoke/MethodHandle" ∧ yX6_init.cls ≠ "java/lang/invoke/VarHandle" ∧ (parseMethodDescriptor yX6_init.desc).map (fun d => d.parameters.length) = some 0 := by decide +kernel
theorem yv_X6_shared : yX6_shared.cls = RX6 ∧ yX6_shared.cls ≠ "java/lang/invoke/MethodHandle" ∧ yX6_shared.cls ≠ "java/lang/invoke/VarHandle" ∧ (parseMethodDescriptor yX6_shared.desc).map (fun d => d.parameters.length) = some 0 := by decide +kernel
theorem yv_X6_turn : yX6_turn.cls = RX6 ∧ yX6_turn.cls ≠ "java/lang/invoke/MethodHandle" ∧ yX6_turn.cls ≠ "java/lang/invoke/VarHandle" ∧ (parseMethodDescriptor yX6_turn.desc).map (fun d => d.parameters.length) = some 0 := by decide +kernel
theorem yv_X7_about : yX7_about.cls = RX7 ∧ yX7_about.cls ≠ "java/lang/invoke/MethodHandle" ∧ yX7_about.cls ≠ "java/lang/invoke/VarHandle" ∧ (parseMethodDescriptor yX7_about.desc).map (fun d => d.parameters.length) = some 1 := by decide +kernel
theorem yv_X7_append : yX7_append.cls = RX7 ∧ yX7_append.cls ≠ "java/lang/invoke/MethodHandle" ∧ yX7_append.cls ≠ "java/lang/invoke/VarHandle" ∧ (parseMethodDescriptor yX7_append.desc).map (fun d => d.parameters.length) = some 1 := by decide +kernel
theorem yv_X7_bestDecision : yX7_bestDecision.cls = RX7 ∧ yX7_bestDecision.cls ≠ "java/lang/invoke/MethodHandle" ∧ yX7_bestDecision.cls ≠ "java/lang/invoke/VarHandle" ∧ (parseMethodDescriptor yX7_bestDecision.desc).map (fun d => d.parameters.length) = some 1 := by decide +kernel
theorem yv_X7_bestPen : yX7_bestPen.cls = RX7 ∧ yX7_bestPen.cls ≠ "java/lang/invoke/MethodHandle" ∧ yX7_bestPen.cls ≠ "java/lang/invoke/VarHandle" ∧ (parseMethodDescriptor yX7_bestPen.desc).map (fun d => d.parameters.length) = some 1 := by decide +kernel
theorem yv_X7_clearText : yX7_clearText.cls = RX7 ∧ yX7_clearText.cls ≠ "java/lang/invoke/MethodHandle" ∧ yX7_clearText.cls ≠ "java/lang/invoke/VarHandle" ∧ (parseMethodDescriptor yX7_clearText.desc).map (fun d => d.parameters.length) = some 0 := by decide +kernel
theorem yv_X7_count : yX7_count.cls = RX7 ∧ yX7_count.cls ≠ "java/lang/invoke/MethodHandle" ∧ yX7_count.cls ≠ "java/lang/invoke/VarHandle" ∧ (parseMethodDescriptor yX7_count.desc).map (fun d => d.parameters.length) = some 2 := by decide +kernel
theorem yv_X7_decide : yX7_decide.cls = RX7 ∧ yX7_decide.cls ≠ "java/lang/invoke/MethodHandle" ∧ yX7_decide.cls ≠ "java/lang/invoke/VarHandle" ∧ (parseMethodDescriptor yX7_decide.desc).map (fun d => d.parameters.length) = some 4 := by decide +kernel
theorem yv_X7_erase : yX7_erase.cls = RX7 ∧ yX7_erase.cls ≠ "java/lang/invoke/MethodHandle" ∧ yX7_erase.cls ≠ "java/lang/invoke/VarHandle" ∧ (parseMethodDescriptor yX7_erase.desc).map (fun d => d.parameters.length) = some 3 := by decide +kernel
theorem yv_X7_errorPosition : yX7_errorPosition.cls = RX7 ∧ yX7_errorPosition.cls ≠ "java/lang/invoke/MethodHandle" ∧ yX7_errorPosition.cls ≠ "java/lang/invoke/VarHandle" ∧ (parseMethodDescriptor yX7_errorPosition.desc).map (fun d => d.parameters.length) = some 0 := by decide +kernel
theorem yv_X7_find : yX7_find.cls = RX7 ∧ yX7_find.cls ≠ "java/lang/invoke/MethodHandle" ∧ yX7_find.cls ≠ "java/lang/invoke/VarHandle" ∧ (parseMethodDescriptor yX7_find.desc).map (fun d => d.parameters.length) = some 3 := by decide +kernel
theorem yv_X7_greatestMargin : yX7_greatestMargin.cls = RX7 ∧ yX7_greatestMargin.cls ≠ "java/lang/invoke/MethodHandle" ∧ yX7_greatestMargin.cls ≠ "java/lang/invoke/VarHandle" ∧ (parseMethodDescriptor yX7_greatestMargin.desc).map (fun d => d.parameters.length) = some 0 := by decide +kernel
theorem ys_X7_init : yX7_init.cls ≠ "java/lang/invoke/MethodHandle" ∧ yX7_init.cls ≠ "java/lang/invoke/VarHandle" ∧ (parseMethodDescriptor yX7_init.desc).map (fun d => d.parameters.length) = some 0 := by decide +kernel
theorem yv_X7_letter : yX7_letter.cls = RX7 ∧ yX7_letter.cls ≠ "java/lang/invoke/MethodHandle" ∧ yX7_letter.cls ≠ "java/lang/invoke/VarHandle" ∧ (parseMethodDescriptor yX7_letter.desc).map (fun d => d.parameters.length) = some 2 := by decide +kernel
theorem yv_X7_load : yX7_load.cls = RX7 ∧ yX7_load.cls ≠ "java/lang/invoke/MethodHandle" ∧ yX7_load.cls ≠ "java/lang/invoke/VarHandle" ∧ (parseMethodDescriptor yX7_load.desc).map (fun d => d.parameters.length) = some 0 := by decide +kernel
theorem yv_X7_mark : yX7_mark.cls = RX7 ∧ yX7_mark.cls ≠ "java/lang/invoke/MethodHandle" ∧ yX7_mark.cls ≠ "java/lang/invoke/VarHandle" ∧ (parseMethodDescriptor yX7_mark.desc).map (fun d => d.parameters.length) = some 4 := by decide +kernel
theorem yv_X7_marks : yX7_marks.cls = RX7 ∧ yX7_marks.cls ≠ "java/lang/invoke/MethodHandle" ∧ yX7_marks.cls ≠ "java/lang/invoke/VarHandle" ∧ (parseMethodDescriptor yX7_marks.desc).map (fun d => d.parameters.length) = some 2 := by decide +kernel
theorem yv_X7_restore : yX7_restore.cls = RX7 ∧ yX7_restore.cls ≠ "java/lang/invoke/MethodHandle" ∧ yX7_restore.cls ≠ "java/lang/invoke/VarHandle" ∧ (parseMethodDescriptor yX7_restore.desc).map (fun d => d.parameters.length) = some 1 := by decide +kernel
theorem yv_X7_runScript : yX7_runScript.cls = RX7 ∧ yX7_runScript.cls ≠ "java/lang/invoke/MethodHandle" ∧ yX7_runScript.cls ≠ "java/lang/invoke/VarHandle" ∧ (parseMethodDescriptor yX7_runScript.desc).map (fun d => d.parameters.length) = some 2 := by decide +kernel
theorem yv_X7_save : yX7_save.cls = RX7 ∧ yX7_save.cls ≠ "java/lang/invoke/MethodHandle" ∧ yX7_save.cls ≠ "java/lang/invoke/VarHandle" ∧ (parseMethodDescriptor yX7_save.desc).map (fun d => d.parameters.length) = some 1 := by decide +kernel
theorem yv_X7_setGap : yX7_setGap.cls = RX7 ∧ yX7_setGap.cls ≠ "java/lang/invoke/MethodHandle" ∧ yX7_setGap.cls ≠ "java/lang/invoke/VarHandle" ∧ (parseMethodDescriptor yX7_setGap.desc).map (fun d => d.parameters.length) = some 1 := by decide +kernel
theorem yv_X7_setLetter : yX7_setLetter.cls = RX7 ∧ yX7_setLetter.cls ≠ "java/lang/invoke/MethodHandle" ∧ yX7_setLetter.cls ≠ "java/lang/invoke/VarHandle" ∧ (parseMethodDescriptor yX7_setLetter.desc).map (fun d => d.parameters.length) = some 4 := by decide +kernel
theorem yv_X7_setMargin : yX7_setMargin.cls = RX7 ∧ yX7_setMargin.cls ≠ "java/lang/invoke/MethodHandle" ∧ yX7_setMargin.cls ≠ "java/lang/invoke/VarHandle" ∧ (parseMethodDescriptor yX7_setMargin.desc).map (fun d => d.parameters.length) = some 1 := by decide +kernel
theorem yv_X7_shared : yX7_shared.cls = RX7 ∧ yX7_shared.cls ≠ "java/lang/invoke/MethodHandle" ∧ yX7_shared.cls ≠ "java/lang/invoke/VarHandle" ∧ (parseMethodDescriptor yX7_shared.desc).map (fun d => d.parameters.length) = some 0 := by decide +kernel
theorem yv_X7_sign : yX7_sign.cls = RX7 ∧ yX7_sign.cls ≠ "java/lang/invoke/MethodHandle" ∧ yX7_sign.cls ≠ "java/lang/invoke/VarHandle" ∧ (parseMethodDescriptor yX7_sign.desc).map (fun d => d.parameters.length) = some 3 := by decide +kernel
theorem yv_X7_simulate : yX7_simulate.cls = RX7 ∧ yX7_simulate.cls ≠ "java/lang/invoke/MethodHandle" ∧ yX7_simulate.cls ≠ "java/lang/invoke/VarHandle" ∧ (parseMethodDescriptor yX7_simulate.desc).map (fun d => d.parameters.length) = some 2 := by decide +kernel
theorem yv_X7_thrown : yX7_thrown.cls = RX7 ∧ yX7_thrown.cls ≠ "java/lang/invoke/MethodHandle" ∧ yX7_thrown.cls ≠ "java/lang/invoke/VarHandle" ∧ (parseMethodDescriptor yX7_thrown.desc).map (fun d => d.parameters.length) = some 0 := by decide +kernel
theorem yv_X7_turn : yX7_turn.cls = RX7 ∧ yX7_turn.cls ≠ "java/lang/invoke/MethodHandle" ∧ yX7_turn.cls ≠ "java/lang/invoke/VarHandle" ∧ (parseMethodDescriptor yX7_turn.desc).map (fun d => d.parameters.length) = some 0 := by decide +kernel
theorem yv_X7_undo : yX7_undo.cls = RX7 ∧ yX7_undo.cls ≠ "java/lang/invoke/MethodHandle" ∧ yX7_undo.cls ≠ "java/lang/invoke/VarHandle" ∧ (parseMethodDescriptor yX7_undo.desc).map (fun d => d.parameters.length) = some 0 := by decide +kernel
theorem yv_X7_wordAt : yX7_wordAt.cls = RX7 ∧ yX7_wordAt.cls ≠ "java/lang/invoke/MethodHandle" ∧ yX7_wordAt.cls ≠ "java/lang/invoke/VarHandle" ∧ (parseMethodDescriptor yX7_wordAt.desc).map (fun d => d.parameters.length) = some 3 := by decide +kernel
theorem yv_X7_wordLength : yX7_wordLength.cls = RX7 ∧ yX7_wordLength.cls ≠ "java/lang/invoke/MethodHandle" ∧ yX7_wordLength.cls ≠ "java/lang/invoke/VarHandle" ∧ (parseMethodDescriptor yX7_wordLength.desc).map (fun d => d.parameters.length) = some 2 := by decide +kernel
theorem yv_X7_wordsWith : yX7_wordsWith.cls = RX7 ∧ yX7_wordsWith.cls ≠ "java/lang/invoke/MethodHandle" ∧ yX7_wordsWith.cls ≠ "java/lang/invoke/VarHandle" ∧ (parseMethodDescriptor yX7_wordsWith.desc).map (fun d => d.parameters.length) = some 2 := by decide +kernel
theorem yv_X7_write : yX7_write.cls = RX7 ∧ yX7_write.cls ≠ "java/lang/invoke/MethodHandle" ∧ yX7_write.cls ≠ "java/lang/invoke/VarHandle" ∧ (parseMethodDescriptor yX7_write.desc).map (fun d => d.parameters.length) = some 5 := by decide +kernel
theorem ni_L_8 : zni RL 8 6 12 [.null, .int 0, .null, .null, .null, .null, .null, .null, .null, .null, .null, .null] := ⟨RX6, TX6, tyX6, rfl, inTX6, tyX6_ok, mw_63, mw_64, mw_47, fun j hj => by rcases (show j = 0 ∨ j = 1 ∨ j = 2 ∨ j = 3 ∨ j = 4 ∨ j = 5 ∨ j = 6 ∨ j = 7 ∨ j = 8 ∨ j = 9 ∨ j = 10 ∨ j = 11 by omega) with rfl | rfl | rfl | rfl | rfl | rfl | rfl | rfl | rfl | rfl | rfl | rfl <;> rfl⟩
theorem ni_L_100 : zni RL 100 7 19 [.int 0, .null, .int 0, .int 0, .null, .null, .null, .null, .null, .int 0, .null, .null, .null, .null, .null, .int 0, .int 0, .null, .null] := ⟨RX7, TX7, tyX7, rfl, inTX7, tyX7_ok, mw_971, mw_972, mw_54, fun j hj => by rcases (show j = 0 ∨ j = 1 ∨ j = 2 ∨ j = 3 ∨ j = 4 ∨ j = 5 ∨ j = 6 ∨ j = 7 ∨ j = 8 ∨ j = 9 ∨ j = 10 ∨ j = 11 ∨ j = 12 ∨ j = 13 ∨ j = 14 ∨ j = 15 ∨ j = 16 ∨ j = 17 ∨ j = 18 by omega) with rfl | rfl | rfl | rfl | rfl | rfl | rfl | rfl | rfl | rfl | rfl | rfl | rfl | rfl | rfl | rfl | rfl | rfl | rfl <;> rfl⟩
theorem cw_L_99 : GoodIn TW (.code yX6_init cX6_init 1 none :: TW) := zGI mw_67
theorem cw_L_102 : GoodIn TW (.code yX7_init cX7_init 1 none :: TW) := zGI mw_975
theorem cw_L_103 : GoodIn TW (va_wsS RL 103 yL_append (.codeWith yL_append cL_append 4 (some .int) [(0, 9, 12, 13), (0, 9, 15, 15)] :: TW)) := zGSW mw_516 mw_517 mw_46 mw_518
theorem cw_L_108 : GoodIn TW (wsV RL 108 RX7 yX7_append (.code yX7_append cX7_append 2 (some .int) :: TW)) := zGV mw_1043 mw_1044 mw_1045 mw_54 mw_1046
theorem cw_L_109 : GoodIn TW (wsV RL 109 RX7 yX7_thrown (.code yX7_thrown cX7_thrown 1 (some .int) :: TW)) := zGV mw_1039 mw_1040 mw_1041 mw_54 mw_1042
theorem cw_L_112 : GoodIn TW (wsV RL 112 RX6 yX6_clearText (.code yX6_clearText cX6_clearText 2 (some .int) :: TW)) := zGV mw_307 mw_308 mw_309 mw_47 mw_310
theorem cw_L_115 : GoodIn TW (wsV RL 115 RX7 yX7_clearText (.code yX7_clearText cX7_clearText 2 (some .int) :: TW)) := zGV mw_1055 mw_1056 mw_1057 mw_54 mw_1058
theorem cw_L_116 : GoodIn TW (wsV RL 116 RX6 yX6_errorPosition (.code yX6_errorPosition cX6_errorPosition 1 (some .int) :: TW)) := zGV mw_311 mw_312 mw_313 mw_47 mw_314
theorem cw_L_119 : GoodIn TW (wsV RL 119 RX7 yX7_errorPosition (.code yX7_errorPosition cX7_errorPosition 1 (some .int) :: TW)) := zGV mw_1059 mw_1060 mw_1061 mw_54 mw_1062
theorem cw_L_120 : GoodIn TW (va_wsS RL 120 yL_load (.codeWith yL_load cL_load 3 (some .int) [(0, 8, 11, 15)] :: TW)) := zGSW mw_613 mw_614 mw_46 mw_615
theorem cw_L_123 : GoodIn TW (wsV RL 123 RX7 yX7_load (.code yX7_load cX7_load 1 (some .int) :: TW)) := zGV mw_1117 mw_1118 mw_1119 mw_54 mw_1120
theorem cw_L_124 : GoodIn TW (va_wsS RL 124 yL_about (.codeWith yL_about cL_about 4 (some .int) [(0, 9, 12, 13)] :: TW)) := zGSW mw_634 mw_635 mw_46 mw_636
theorem cw_L_126 : GoodIn TW (wsV RL 126 RX7 yX7_about (.code yX7_about cX7_about 2 (some .int) :: TW)) := zGV mw_1127 mw_1128 mw_1129 mw_54 mw_1130
theorem cw_L_127 : GoodIn TW (va_wsS RL 127 yL_letter (.codeWith yL_letter cL_letter 5 (some .int) [(0, 10, 13, 28), (0, 10, 17, 13)] :: TW)) := zGSW mw_649 mw_650 mw_46 mw_651
theorem cw_L_130 : GoodIn TW (wsV RL 130 RX7 yX7_letter (.code yX7_letter cX7_letter 6 (some .int) :: TW)) := zGV mw_1153 mw_1154 mw_1155 mw_54 mw_1156
theorem cw_L_131 : GoodIn TW (va_wsS RL 131 yL_marks (.codeWith yL_marks cL_marks 5 (some .int) [(0, 10, 13, 28)] :: TW)) := zGSW mw_684 mw_685 mw_46 mw_686
theorem cw_L_133 : GoodIn TW (wsV RL 133 RX7 yX7_marks (.code yX7_marks cX7_marks 3 (some .int) :: TW)) := zGV mw_1176 mw_1177 mw_1178 mw_54 mw_1179
theorem cw_L_134 : GoodIn TW (va_wsS RL 134 yL_mark (.codeWith yL_mark cL_mark 7 (some .int) [(0, 14, 17, 28), (0, 14, 21, 13)] :: TW)) := zGSW mw_698 mw_699 mw_46 mw_700
theorem cw_L_137 : GoodIn TW (wsV RL 137 RX7 yX7_mark (.code yX7_mark cX7_mark 6 (some .int) :: TW)) := zGV mw_1183 mw_1184 mw_1185 mw_54 mw_1186
theorem cw_L_138 : GoodIn TW (va_wsS RL 138 yL_wordLength (.codeWith yL_wordLength cL_wordLength 5 (some .int) [(0, 10, 13, 28)] :: TW)) := zGSW mw_721 mw_722 mw_46 mw_723
theorem cw_L_140 : GoodIn TW (wsV RL 140 RX7 yX7_wordLength (.code yX7_wordLength cX7_wordLength 3 (some .int) :: TW)) := zGV mw_1191 mw_1192 mw_1193 mw_54 mw_1194
theorem cw_L_141 : GoodIn TW (va_wsS RL 141 yL_sign (.codeWith yL_sign cL_sign 6 (some .int) [(0, 12, 15, 28), (0, 12, 19, 13)] :: TW)) := zGSW mw_735 mw_736 mw_46 mw_737
theorem cw_L_144 : GoodIn TW (wsV RL 144 RX7 yX7_sign (.code yX7_sign cX7_sign 4 (some .int) :: TW)) := zGV mw_1199 mw_1200 mw_1201 mw_54 mw_1202
theorem cw_L_145 : GoodIn TW (va_wsS RL 145 yL_wordAt (.codeWith yL_wordAt cL_wordAt 6 (some .int) [(0, 12, 15, 28)] :: TW)) := zGSW mw_744 mw_745 mw_46 mw_746
theorem cw_L_147 : GoodIn TW (wsV RL 147 RX7 yX7_wordAt (.code yX7_wordAt cX7_wordAt 4 (some .int) :: TW)) := zGV mw_1203 mw_1204 mw_1205 mw_54 mw_1206
theorem cw_L_148 : GoodIn TW (va_wsS RL 148 yL_write (.codeWith yL_write cL_write 8 (some .int) [(0, 16, 19, 28), (0, 16, 23, 13), (0, 16, 27, 15)] :: TW)) := zGSW mw_751 mw_752 mw_46 mw_753
theorem cw_L_151 : GoodIn TW (wsV RL 151 RX7 yX7_write (.code yX7_write cX7_write 7 (some .int) :: TW)) := zGV mw_1207 mw_1208 mw_1209 mw_54 mw_1210
theorem cw_L_152 : GoodIn TW (va_wsS RL 152 yL_erase (.codeWith yL_erase cL_erase 6 (some .int) [(0, 12, 15, 28)] :: TW)) := zGSW mw_761 mw_762 mw_46 mw_763
theorem cw_L_154 : GoodIn TW (wsV RL 154 RX7 yX7_erase (.code yX7_erase cX7_erase 4 (some .int) :: TW)) := zGV mw_1218 mw_1219 mw_1220 mw_54 mw_1221
theorem cw_L_155 : GoodIn TW (va_wsS RL 155 yL_decide (.codeWith yL_decide cL_decide 7 (some .int) [(0, 14, 17, 28), (0, 14, 21, 13), (0, 14, 25, 15)] :: TW)) := zGSW mw_772 mw_773 mw_46 mw_774
theorem cw_L_157 : GoodIn TW (wsV RL 157 RX7 yX7_decide (.code yX7_decide cX7_decide 5 (some .int) :: TW)) := zGV mw_1225 mw_1226 mw_1227 mw_54 mw_1228
theorem cw_L_158 : GoodIn TW (va_wsS RL 158 yL_setLetter (.codeWith yL_setLetter cL_setLetter 7 (some .int) [(0, 14, 17, 28), (0, 14, 21, 13)] :: TW)) := zGSW mw_792 mw_793 mw_46 mw_794
theorem cw_L_160 : GoodIn TW (wsV RL 160 RX7 yX7_setLetter (.code yX7_setLetter cX7_setLetter 5 (some .int) :: TW)) := zGV mw_1236 mw_1237 mw_1238 mw_54 mw_1239
theorem cw_L_161 : GoodIn TW (va_wsS RL 161 yL_setMargin (.codeWith yL_setMargin cL_setMargin 4 (some .int) [(0, 9, 12, 13)] :: TW)) := zGSW mw_800 mw_801 mw_46 mw_802
theorem cw_L_163 : GoodIn TW (wsV RL 163 RX7 yX7_setMargin (.code yX7_setMargin cX7_setMargin 3 (some .int) :: TW)) := zGV mw_1243 mw_1244 mw_1245 mw_54 mw_1246
theorem cw_L_164 : GoodIn TW (va_wsS RL 164 yL_setGap (.codeWith yL_setGap cL_setGap 4 (some .int) [(0, 9, 12, 13)] :: TW)) := zGSW mw_807 mw_808 mw_46 mw_809
theorem cw_L_166 : GoodIn TW (wsV RL 166 RX7 yX7_setGap (.code yX7_setGap cX7_setGap 3 (some .int) :: TW)) := zGV mw_1247 mw_1248 mw_1249 mw_54 mw_1250
theorem cw_L_167 : GoodIn TW (wsV RL 167 RX6 yX6_turn (.code yX6_turn cX6_turn 1 (some .int) :: TW)) := zGV mw_397 mw_398 mw_399 mw_47 mw_400
theorem cw_L_170 : GoodIn TW (wsV RL 170 RX7 yX7_turn (.code yX7_turn cX7_turn 1 (some .int) :: TW)) := zGV mw_1251 mw_1252 mw_1253 mw_54 mw_1254
theorem cw_L_171 : GoodIn TW (va_wsS RL 171 yL_undo (.codeWith yL_undo cL_undo 3 (some .int) [(0, 8, 11, 15)] :: TW)) := zGSW mw_814 mw_815 mw_46 mw_816
theorem cw_L_173 : GoodIn TW (wsV RL 173 RX7 yX7_undo (.code yX7_undo cX7_undo 1 (some .int) :: TW)) := zGV mw_1262 mw_1263 mw_1264 mw_54 mw_1265
theorem cw_L_176 : GoodIn TW (va_wsS RL 176 yL_find (.codeWith yL_find cL_find 7 (some .int) [(0, 12, 15, 28), (0, 12, 19, 13)] :: TW)) := zGSW mw_835 mw_836 mw_46 mw_837
theorem cw_L_179 : GoodIn TW (wsV RL 179 RX7 yX7_find (.code yX7_find cX7_find 7 (some .int) :: TW)) := zGV mw_1266 mw_1267 mw_1268 mw_54 mw_1269
theorem cw_L_180 : GoodIn TW (wsV RL 180 RX6 yX6_shared (.code yX6_shared cX6_shared 3 (some .int) :: TW)) := zGV mw_482 mw_483 mw_484 mw_47 mw_485
theorem cw_L_183 : GoodIn TW (wsV RL 183 RX7 yX7_shared (.code yX7_shared cX7_shared 7 (some .int) :: TW)) := zGV mw_1281 mw_1282 mw_1283 mw_54 mw_1284
theorem cw_L_184 : GoodIn TW (va_wsS RL 184 yL_count (.codeWith yL_count cL_count 5 (some .int) [(0, 10, 13, 28), (0, 10, 17, 13)] :: TW)) := zGSW mw_852 mw_853 mw_46 mw_854
theorem cw_L_186 : GoodIn TW (wsV RL 186 RX7 yX7_count (.code yX7_count cX7_count 5 (some .int) :: TW)) := zGV mw_1285 mw_1286 mw_1287 mw_54 mw_1288
theorem cw_L_187 : GoodIn TW (va_wsS RL 187 yL_bestPen (.codeWith yL_bestPen cL_bestPen 4 (some .int) [(0, 9, 12, 28)] :: TW)) := zGSW mw_863 mw_864 mw_46 mw_865
theorem cw_L_189 : GoodIn TW (wsV RL 189 RX7 yX7_bestPen (.code yX7_bestPen cX7_bestPen 7 (some .int) :: TW)) := zGV mw_1289 mw_1290 mw_1291 mw_54 mw_1292
theorem cw_L_190 : GoodIn TW (wsV RL 190 RX6 yX6_greatestMargin (.code yX6_greatestMargin cX6_greatestMargin 2 (some .int) :: TW)) := zGV mw_506 mw_507 mw_508 mw_47 mw_509
theorem cw_L_193 : GoodIn TW (wsV RL 193 RX7 yX7_greatestMargin (.code yX7_greatestMargin cX7_greatestMargin 2 (some .int) :: TW)) := zGV mw_1293 mw_1294 mw_1295 mw_54 mw_1296
theorem cw_L_194 : GoodIn TW (va_wsS RL 194 yL_bestDecision (.codeWith yL_bestDecision cL_bestDecision 4 (some .int) [(0, 9, 12, 28)] :: TW)) := zGSW mw_874 mw_875 mw_46 mw_876
theorem cw_L_196 : GoodIn TW (wsV RL 196 RX7 yX7_bestDecision (.code yX7_bestDecision cX7_bestDecision 10 (some .int) :: TW)) := zGV mw_1297 mw_1298 mw_1299 mw_54 mw_1300
theorem cw_L_197 : GoodIn TW (va_wsS RL 197 yL_wordsWith (.codeWith yL_wordsWith cL_wordsWith 5 (some .int) [(0, 10, 13, 28), (0, 10, 17, 13)] :: TW)) := zGSW mw_887 mw_888 mw_46 mw_889
theorem cw_L_199 : GoodIn TW (wsV RL 199 RX7 yX7_wordsWith (.code yX7_wordsWith cX7_wordsWith 3 (some .int) :: TW)) := zGV mw_1301 mw_1302 mw_1303 mw_54 mw_1304
theorem cw_L_200 : GoodIn TW (va_wsS RL 200 yL_runScript (.codeWith yL_runScript cL_runScript 6 (some .int) [(0, 11, 14, 13)] :: TW)) := zGSW mw_894 mw_895 mw_46 mw_896
theorem cw_L_203 : GoodIn TW (wsV RL 203 RX7 yX7_runScript (.code yX7_runScript cX7_runScript 10 (some .int) :: TW)) := zGV mw_1305 mw_1306 mw_1307 mw_54 mw_1308
theorem cw_L_204 : GoodIn TW (va_wsS RL 204 yL_simulate (.codeWith yL_simulate cL_simulate 6 (some .int) [(0, 11, 14, 13)] :: TW)) := zGSW mw_932 mw_933 mw_46 mw_934
theorem cw_L_207 : GoodIn TW (wsV RL 207 RX7 yX7_simulate (.code yX7_simulate cX7_simulate 9 (some .int) :: TW)) := zGV mw_1316 mw_1317 mw_1318 mw_54 mw_1319
theorem cw_L_208 : GoodIn TW (va_wsS RL 208 yL_save (.codeWith yL_save cL_save 4 (some .int) [(0, 9, 12, 28)] :: TW)) := zGSW mw_949 mw_950 mw_46 mw_951
theorem cw_L_210 : GoodIn TW (wsV RL 210 RX7 yX7_save (.code yX7_save cX7_save 2 (some .int) :: TW)) := zGV mw_1324 mw_1325 mw_1326 mw_54 mw_1327
theorem cw_L_211 : GoodIn TW (va_wsS RL 211 yL_restore (.codeWith yL_restore cL_restore 4 (some .int) [(0, 9, 12, 28), (0, 9, 15, 15)] :: TW)) := zGSW mw_961 mw_962 mw_46 mw_963
theorem cw_L_213 : GoodIn TW (wsV RL 213 RX7 yX7_restore (.code yX7_restore cX7_restore 2 (some .int) :: TW)) := zGV mw_1328 mw_1329 mw_1330 mw_54 mw_1331
theorem dL_law_0 : decode cL_law 0 = .ok (.new 8, 3) := by decide +kernel
theorem dL_law_3 : decode cL_law 3 = .ok (.dup, 1) := by decide +kernel
theorem dL_law_4 : decode cL_law 4 = .ok (.invokespecial 99, 3) := by decide +kernel
theorem dL_law_7 : decode cL_law 7 = .ok (.astore_n 1, 1) := by decide +kernel
theorem dL_law_8 : decode cL_law 8 = .ok (.new 100, 3) := by decide +kernel
theorem dL_law_11 : decode cL_law 11 = .ok (.dup, 1) := by decide +kernel
theorem dL_law_12 : decode cL_law 12 = .ok (.invokespecial 102, 3) := by decide +kernel
theorem dL_law_15 : decode cL_law 15 = .ok (.astore_n 2, 1) := by decide +kernel
theorem dL_law_16 : decode cL_law 16 = .ok (.iconst 1, 1) := by decide +kernel
theorem dL_law_17 : decode cL_law 17 = .ok (.newarray .long, 2) := by decide +kernel
theorem dL_law_19 : decode cL_law 19 = .ok (.astore_n 3, 1) := by decide +kernel
theorem dL_law_20 : decode cL_law 20 = .ok (.iconst 0, 1) := by decide +kernel
theorem dL_law_21 : decode cL_law 21 = .ok (.istore 4, 2) := by decide +kernel
theorem dL_law_23 : decode cL_law 23 = .ok (.iload 4, 2) := by decide +kernel
theorem dL_law_25 : decode cL_law 25 = .ok (.aload_n 0, 1) := by decide +kernel
theorem dL_law_26 : decode cL_law 26 = .ok (.arraylength, 1) := by decide +kernel
theorem dL_law_27 : decode cL_law 27 = .ok (.bipush 6, 2) := by decide +kernel
theorem dL_law_29 : decode cL_law 29 = .ok (.isub, 1) := by decide +kernel
theorem dL_law_30 : decode cL_law 30 = .ok (.if_icmp .gt 2025, 3) := by decide +kernel
theorem dL_law_33 : decode cL_law 33 = .ok (.aload_n 0, 1) := by decide +kernel
theorem dL_law_34 : decode cL_law 34 = .ok (.iload 4, 2) := by decide +kernel
theorem dL_law_36 : decode cL_law 36 = .ok (.iaload, 1) := by decide +kernel
theorem dL_law_37 : decode cL_law 37 = .ok (.bipush 31, 2) := by decide +kernel
theorem dL_law_39 : decode cL_law 39 = .ok (.iand, 1) := by decide +kernel
theorem dL_law_40 : decode cL_law 40 = .ok (.tableswitch 2009 0 29 #[136, 192, 205, 218, 262, 318, 386, 454, 546, 614, 694, 774, 878, 958, 1050, 1142, 1198, 1254, 1267, 1311, 1423, 1436, 1504, 1560, 1573, 1629, 1697, 1797, 1897, 1953], 136) := by decide +kernel
theorem dL_law_176 : decode cL_law 176 = .ok (.aload_n 1, 1) := by decide +kernel
theorem dL_law_177 : decode cL_law 177 = .ok (.aload_n 0, 1) := by decide +kernel
theorem dL_law_178 : decode cL_law 178 = .ok (.iload 4, 2) := by decide +kernel
theorem dL_law_180 : decode cL_law 180 = .ok (.iconst 1, 1) := by decide +kernel
theorem dL_law_181 : decode cL_law 181 = .ok (.iadd, 1) := by decide +kernel
theorem dL_law_182 : decode cL_law 182 = .ok (.iaload, 1) := by decide +kernel
theorem dL_law_183 : decode cL_law 183 = .ok (.aload_n 3, 1) := by decide +kernel
theorem dL_law_184 : decode cL_law 184 = .ok (.invokestatic 103, 3) := by decide +kernel
theorem dL_law_187 : decode cL_law 187 = .ok (.istore 5, 2) := by decide +kernel
theorem dL_law_189 : decode cL_law 189 = .ok (.aload_n 2, 1) := by decide +kernel
theorem dL_law_190 : decode cL_law 190 = .ok (.aload_n 0, 1) := by decide +kernel
theorem dL_law_191 : decode cL_law 191 = .ok (.iload 4, 2) := by decide +kernel
theorem dL_law_193 : decode cL_law 193 = .ok (.iconst 1, 1) := by decide +kernel
theorem dL_law_194 : decode cL_law 194 = .ok (.iadd, 1) := by decide +kernel
theorem dL_law_195 : decode cL_law 195 = .ok (.iaload, 1) := by decide +kernel
theorem dL_law_196 : decode cL_law 196 = .ok (.invokevirtual 108, 3) := by decide +kernel
theorem dL_law_199 : decode cL_law 199 = .ok (.istore 6, 2) := by decide +kernel
theorem dL_law_201 : decode cL_law 201 = .ok (.aload_n 2, 1) := by decide +kernel
theorem dL_law_202 : decode cL_law 202 = .ok (.invokevirtual 109, 3) := by decide +kernel
theorem dL_law_205 : decode cL_law 205 = .ok (.iload 5, 2) := by decide +kernel
theorem dL_law_207 : decode cL_law 207 = .ok (.if_icmp .eq 5, 3) := by decide +kernel
theorem dL_law_210 : decode cL_law 210 = .ok (.iconst 0, 1) := by decide +kernel
theorem dL_law_211 : decode cL_law 211 = .ok (.ireturn, 1) := by decide +kernel
theorem dL_law_212 : decode cL_law 212 = .ok (.iload 5, 2) := by decide +kernel
theorem dL_law_214 : decode cL_law 214 = .ok (.ifCond .ne 15, 3) := by decide +kernel
theorem dL_law_217 : decode cL_law 217 = .ok (.aload_n 3, 1) := by decide +kernel
theorem dL_law_218 : decode cL_law 218 = .ok (.iconst 0, 1) := by decide +kernel
theorem dL_law_219 : decode cL_law 219 = .ok (.laload, 1) := by decide +kernel
theorem dL_law_220 : decode cL_law 220 = .ok (.iload 6, 2) := by decide +kernel
theorem dL_law_222 : decode cL_law 222 = .ok (.i2l, 1) := by decide +kernel
theorem dL_law_223 : decode cL_law 223 = .ok (.lcmp, 1) := by decide +kernel
theorem dL_law_224 : decode cL_law 224 = .ok (.ifCond .eq 5, 3) := by decide +kernel
theorem dL_law_227 : decode cL_law 227 = .ok (.iconst 0, 1) := by decide +kernel
theorem dL_law_228 : decode cL_law 228 = .ok (.ireturn, 1) := by decide +kernel
theorem dL_law_229 : decode cL_law 229 = .ok (.goto 1820, 3) := by decide +kernel
theorem dL_law_232 : decode cL_law 232 = .ok (.aload_n 1, 1) := by decide +kernel
theorem dL_law_233 : decode cL_law 233 = .ok (.invokevirtual 112, 3) := by decide +kernel
theorem dL_law_236 : decode cL_law 236 = .ok (.aload_n 2, 1) := by decide +kernel
theorem dL_law_237 : decode cL_law 237 = .ok (.invokevirtual 115, 3) := by decide +kernel
theorem dL_law_240 : decode cL_law 240 = .ok (.if_icmp .eq 1809, 3) := by decide +kernel
theorem dL_law_243 : decode cL_law 243 = .ok (.iconst 0, 1) := by decide +kernel
theorem dL_law_244 : decode cL_law 244 = .ok (.ireturn, 1) := by decide +kernel
theorem dL_law_245 : decode cL_law 245 = .ok (.aload_n 1, 1) := by decide +kernel
theorem dL_law_246 : decode cL_law 246 = .ok (.invokevirtual 116, 3) := by decide +kernel
theorem dL_law_249 : decode cL_law 249 = .ok (.aload_n 2, 1) := by decide +kernel
theorem dL_law_250 : decode cL_law 250 = .ok (.invokevirtual 119, 3) := by decide +kernel
theorem dL_law_253 : decode cL_law 253 = .ok (.if_icmp .eq 1796, 3) := by decide +kernel
theorem dL_law_256 : decode cL_law 256 = .ok (.iconst 0, 1) := by decide +kernel
theorem dL_law_257 : decode cL_law 257 = .ok (.ireturn, 1) := by decide +kernel
theorem dL_law_258 : decode cL_law 258 = .ok (.aload_n 1, 1) := by decide +kernel
theorem dL_law_259 : decode cL_law 259 = .ok (.aload_n 3, 1) := by decide +kernel
theorem dL_law_260 : decode cL_law 260 = .ok (.invokestatic 120, 3) := by decide +kernel
theorem dL_law_263 : decode cL_law 263 = .ok (.istore 5, 2) := by decide +kernel
theorem dL_law_265 : decode cL_law 265 = .ok (.aload_n 2, 1) := by decide +kernel
theorem dL_law_266 : decode cL_law 266 = .ok (.invokevirtual 123, 3) := by decide +kernel
theorem dL_law_269 : decode cL_law 269 = .ok (.istore 6, 2) := by decide +kernel
theorem dL_law_271 : decode cL_law 271 = .ok (.aload_n 2, 1) := by decide +kernel
theorem dL_law_272 : decode cL_law 272 = .ok (.invokevirtual 109, 3) := by decide +kernel
theorem dL_law_275 : decode cL_law 275 = .ok (.iload 5, 2) := by decide +kernel
theorem dL_law_277 : decode cL_law 277 = .ok (.if_icmp .eq 5, 3) := by decide +kernel
theorem dL_law_280 : decode cL_law 280 = .ok (.iconst 0, 1) := by decide +kernel
theorem dL_law_281 : decode cL_law 281 = .ok (.ireturn, 1) := by decide +kernel
theorem dL_law_282 : decode cL_law 282 = .ok (.iload 5, 2) := by decide +kernel
theorem dL_law_284 : decode cL_law 284 = .ok (.ifCond .ne 15, 3) := by decide +kernel
theorem dL_law_287 : decode cL_law 287 = .ok (.aload_n 3, 1) := by decide +kernel
theorem dL_law_288 : decode cL_law 288 = .ok (.iconst 0, 1) := by decide +kernel
theorem dL_law_289 : decode cL_law 289 = .ok (.laload, 1) := by decide +kernel
theorem dL_law_290 : decode cL_law 290 = .ok (.iload 6, 2) := by decide +kernel
theorem dL_law_292 : decode cL_law 292 = .ok (.i2l, 1) := by decide +kernel
theorem dL_law_293 : decode cL_law 293 = .ok (.lcmp, 1) := by decide +kernel
theorem dL_law_294 : decode cL_law 294 = .ok (.ifCond .eq 5, 3) := by decide +kernel
theorem dL_law_297 : decode cL_law 297 = .ok (.iconst 0, 1) := by decide +kernel
theorem dL_law_298 : decode cL_law 298 = .ok (.ireturn, 1) := by decide +kernel
theorem dL_law_299 : decode cL_law 299 = .ok (.goto 1750, 3) := by decide +kernel
theorem dL_law_302 : decode cL_law 302 = .ok (.aload_n 1, 1) := by decide +kernel
theorem dL_law_303 : decode cL_law 303 = .ok (.aload_n 0, 1) := by decide +kernel
theorem dL_law_304 : decode cL_law 304 = .ok (.iload 4, 2) := by decide +kernel
theorem dL_law_306 : decode cL_law 306 = .ok (.iconst 1, 1) := by decide +kernel
theorem dL_law_307 : decode cL_law 307 = .ok (.iadd, 1) := by decide +kernel
theorem dL_law_308 : decode cL_law 308 = .ok (.iaload, 1) := by decide +kernel
theorem dL_law_309 : decode cL_law 309 = .ok (.aload_n 3, 1) := by decide +kernel
theorem dL_law_310 : decode cL_law 310 = .ok (.invokestatic 124, 3) := by decide +kernel
theorem dL_law_313 : decode cL_law 313 = .ok (.istore 5, 2) := by decide +kernel
theorem dL_law_315 : decode cL_law 315 = .ok (.aload_n 2, 1) := by decide +kernel
theorem dL_law_316 : decode cL_law 316 = .ok (.aload_n 0, 1) := by decide +kernel
theorem dL_law_317 : decode cL_law 317 = .ok (.iload 4, 2) := by decide +kernel
theorem dL_law_319 : decode cL_law 319 = .ok (.iconst 1, 1) := by decide +kernel
theorem dL_law_320 : decode cL_law 320 = .ok (.iadd, 1) := by decide +kernel
theorem dL_law_321 : decode cL_law 321 = .ok (.iaload, 1) := by decide +kernel
theorem dL_law_322 : decode cL_law 322 = .ok (.invokevirtual 126, 3) := by decide +kernel
theorem dL_law_325 : decode cL_law 325 = .ok (.istore 6, 2) := by decide +kernel
theorem dL_law_327 : decode cL_law 327 = .ok (.aload_n 2, 1) := by decide +kernel
theorem dL_law_328 : decode cL_law 328 = .ok (.invokevirtual 109, 3) := by decide +kernel
theorem dL_law_331 : decode cL_law 331 = .ok (.iload 5, 2) := by decide +kernel
theorem dL_law_333 : decode cL_law 333 = .ok (.if_icmp .eq 5, 3) := by decide +kernel
theorem dL_law_336 : decode cL_law 336 = .ok (.iconst 0, 1) := by decide +kernel
theorem dL_law_337 : decode cL_law 337 = .ok (.ireturn, 1) := by decide +kernel
theorem dL_law_338 : decode cL_law 338 = .ok (.iload 5, 2) := by decide +kernel
theorem dL_law_340 : decode cL_law 340 = .ok (.ifCond .ne 15, 3) := by decide +kernel
theorem dL_law_343 : decode cL_law 343 = .ok (.aload_n 3, 1) := by decide +kernel
theorem dL_law_344 : decode cL_law 344 = .ok (.iconst 0, 1) := by decide +kernel
theorem dL_law_345 : decode cL_law 345 = .ok (.laload, 1) := by decide +kernel
theorem dL_law_346 : decode cL_law 346 = .ok (.iload 6, 2) := by decide +kernel
theorem dL_law_348 : decode cL_law 348 = .ok (.i2l, 1) := by decide +kernel
theorem dL_law_349 : decode cL_law 349 = .ok (.lcmp, 1) := by decide +kernel
theorem dL_law_350 : decode cL_law 350 = .ok (.ifCond .eq 5, 3) := by decide +kernel
theorem dL_law_353 : decode cL_law 353 = .ok (.iconst 0, 1) := by decide +kernel
theorem dL_law_354 : decode cL_law 354 = .ok (.ireturn, 1) := by decide +kernel
theorem dL_law_355 : decode cL_law 355 = .ok (.goto 1694, 3) := by decide +kernel
theorem dL_law_358 : decode cL_law 358 = .ok (.aload_n 1, 1) := by decide +kernel
theorem dL_law_359 : decode cL_law 359 = .ok (.aload_n 0, 1) := by decide +kernel
theorem dL_law_360 : decode cL_law 360 = .ok (.iload 4, 2) := by decide +kernel
theorem dL_law_362 : decode cL_law 362 = .ok (.iconst 1, 1) := by decide +kernel
theorem dL_law_363 : decode cL_law 363 = .ok (.iadd, 1) := by decide +kernel
theorem dL_law_364 : decode cL_law 364 = .ok (.iaload, 1) := by decide +kernel
theorem dL_law_365 : decode cL_law 365 = .ok (.aload_n 0, 1) := by decide +kernel
theorem dL_law_366 : decode cL_law 366 = .ok (.iload 4, 2) := by decide +kernel
theorem dL_law_368 : decode cL_law 368 = .ok (.iconst 2, 1) := by decide +kernel
theorem dL_law_369 : decode cL_law 369 = .ok (.iadd, 1) := by decide +kernel
theorem dL_law_370 : decode cL_law 370 = .ok (.iaload, 1) := by decide +kernel
theorem dL_law_371 : decode cL_law 371 = .ok (.aload_n 3, 1) := by decide +kernel
theorem dL_law_372 : decode cL_law 372 = .ok (.invokestatic 127, 3) := by decide +kernel
theorem dL_law_375 : decode cL_law 375 = .ok (.istore 5, 2) := by decide +kernel
theorem dL_law_377 : decode cL_law 377 = .ok (.aload_n 2, 1) := by decide +kernel
theorem dL_law_378 : decode cL_law 378 = .ok (.aload_n 0, 1) := by decide +kernel
theorem dL_law_379 : decode cL_law 379 = .ok (.iload 4, 2) := by decide +kernel
theorem dL_law_381 : decode cL_law 381 = .ok (.iconst 1, 1) := by decide +kernel
theorem dL_law_382 : decode cL_law 382 = .ok (.iadd, 1) := by decide +kernel
theorem dL_law_383 : decode cL_law 383 = .ok (.iaload, 1) := by decide +kernel
theorem dL_law_384 : decode cL_law 384 = .ok (.aload_n 0, 1) := by decide +kernel
theorem dL_law_385 : decode cL_law 385 = .ok (.iload 4, 2) := by decide +kernel
theorem dL_law_387 : decode cL_law 387 = .ok (.iconst 2, 1) := by decide +kernel
theorem dL_law_388 : decode cL_law 388 = .ok (.iadd, 1) := by decide +kernel
theorem dL_law_389 : decode cL_law 389 = .ok (.iaload, 1) := by decide +kernel
theorem dL_law_390 : decode cL_law 390 = .ok (.invokevirtual 130, 3) := by decide +kernel
theorem dL_law_393 : decode cL_law 393 = .ok (.istore 6, 2) := by decide +kernel
theorem dL_law_395 : decode cL_law 395 = .ok (.aload_n 2, 1) := by decide +kernel
theorem dL_law_396 : decode cL_law 396 = .ok (.invokevirtual 109, 3) := by decide +kernel
theorem dL_law_399 : decode cL_law 399 = .ok (.iload 5, 2) := by decide +kernel
theorem dL_law_401 : decode cL_law 401 = .ok (.if_icmp .eq 5, 3) := by decide +kernel
theorem dL_law_404 : decode cL_law 404 = .ok (.iconst 0, 1) := by decide +kernel
theorem dL_law_405 : decode cL_law 405 = .ok (.ireturn, 1) := by decide +kernel
theorem dL_law_406 : decode cL_law 406 = .ok (.iload 5, 2) := by decide +kernel
theorem dL_law_408 : decode cL_law 408 = .ok (.ifCond .ne 15, 3) := by decide +kernel
theorem dL_law_411 : decode cL_law 411 = .ok (.aload_n 3, 1) := by decide +kernel
theorem dL_law_412 : decode cL_law 412 = .ok (.iconst 0, 1) := by decide +kernel
theorem dL_law_413 : decode cL_law 413 = .ok (.laload, 1) := by decide +kernel
theorem dL_law_414 : decode cL_law 414 = .ok (.iload 6, 2) := by decide +kernel
theorem dL_law_416 : decode cL_law 416 = .ok (.i2l, 1) := by decide +kernel
theorem dL_law_417 : decode cL_law 417 = .ok (.lcmp, 1) := by decide +kernel
theorem dL_law_418 : decode cL_law 418 = .ok (.ifCond .eq 5, 3) := by decide +kernel
theorem dL_law_421 : decode cL_law 421 = .ok (.iconst 0, 1) := by decide +kernel
theorem dL_law_422 : decode cL_law 422 = .ok (.ireturn, 1) := by decide +kernel
theorem dL_law_423 : decode cL_law 423 = .ok (.goto 1626, 3) := by decide +kernel
theorem dL_law_426 : decode cL_law 426 = .ok (.aload_n 1, 1) := by decide +kernel
theorem dL_law_427 : decode cL_law 427 = .ok (.aload_n 0, 1) := by decide +kernel
theorem dL_law_428 : decode cL_law 428 = .ok (.iload 4, 2) := by decide +kernel
theorem dL_law_430 : decode cL_law 430 = .ok (.iconst 1, 1) := by decide +kernel
theorem dL_law_431 : decode cL_law 431 = .ok (.iadd, 1) := by decide +kernel
theorem dL_law_432 : decode cL_law 432 = .ok (.iaload, 1) := by decide +kernel
theorem dL_law_433 : decode cL_law 433 = .ok (.aload_n 0, 1) := by decide +kernel
theorem dL_law_434 : decode cL_law 434 = .ok (.iload 4, 2) := by decide +kernel
theorem dL_law_436 : decode cL_law 436 = .ok (.iconst 2, 1) := by decide +kernel
theorem dL_law_437 : decode cL_law 437 = .ok (.iadd, 1) := by decide +kernel
theorem dL_law_438 : decode cL_law 438 = .ok (.iaload, 1) := by decide +kernel
theorem dL_law_439 : decode cL_law 439 = .ok (.aload_n 3, 1) := by decide +kernel
theorem dL_law_440 : decode cL_law 440 = .ok (.invokestatic 131, 3) := by decide +kernel
theorem dL_law_443 : decode cL_law 443 = .ok (.istore 5, 2) := by decide +kernel
theorem dL_law_445 : decode cL_law 445 = .ok (.aload_n 2, 1) := by decide +kernel
theorem dL_law_446 : decode cL_law 446 = .ok (.aload_n 0, 1) := by decide +kernel
theorem dL_law_447 : decode cL_law 447 = .ok (.iload 4, 2) := by decide +kernel
theorem dL_law_449 : decode cL_law 449 = .ok (.iconst 1, 1) := by decide +kernel
theorem dL_law_450 : decode cL_law 450 = .ok (.iadd, 1) := by decide +kernel
theorem dL_law_451 : decode cL_law 451 = .ok (.iaload, 1) := by decide +kernel
theorem dL_law_452 : decode cL_law 452 = .ok (.aload_n 0, 1) := by decide +kernel
theorem dL_law_453 : decode cL_law 453 = .ok (.iload 4, 2) := by decide +kernel
theorem dL_law_455 : decode cL_law 455 = .ok (.iconst 2, 1) := by decide +kernel
theorem dL_law_456 : decode cL_law 456 = .ok (.iadd, 1) := by decide +kernel
theorem dL_law_457 : decode cL_law 457 = .ok (.iaload, 1) := by decide +kernel
theorem dL_law_458 : decode cL_law 458 = .ok (.invokevirtual 133, 3) := by decide +kernel
theorem dL_law_461 : decode cL_law 461 = .ok (.istore 6, 2) := by decide +kernel
theorem dL_law_463 : decode cL_law 463 = .ok (.aload_n 2, 1) := by decide +kernel
theorem dL_law_464 : decode cL_law 464 = .ok (.invokevirtual 109, 3) := by decide +kernel
theorem dL_law_467 : decode cL_law 467 = .ok (.iload 5, 2) := by decide +kernel
theorem dL_law_469 : decode cL_law 469 = .ok (.if_icmp .eq 5, 3) := by decide +kernel
theorem dL_law_472 : decode cL_law 472 = .ok (.iconst 0, 1) := by decide +kernel
theorem dL_law_473 : decode cL_law 473 = .ok (.ireturn, 1) := by decide +kernel
theorem dL_law_474 : decode cL_law 474 = .ok (.iload 5, 2) := by decide +kernel
theorem dL_law_476 : decode cL_law 476 = .ok (.ifCond .ne 15, 3) := by decide +kernel
theorem dL_law_479 : decode cL_law 479 = .ok (.aload_n 3, 1) := by decide +kernel
theorem dL_law_480 : decode cL_law 480 = .ok (.iconst 0, 1) := by decide +kernel
theorem dL_law_481 : decode cL_law 481 = .ok (.laload, 1) := by decide +kernel
theorem dL_law_482 : decode cL_law 482 = .ok (.iload 6, 2) := by decide +kernel
theorem dL_law_484 : decode cL_law 484 = .ok (.i2l, 1) := by decide +kernel
theorem dL_law_485 : decode cL_law 485 = .ok (.lcmp, 1) := by decide +kernel
theorem dL_law_486 : decode cL_law 486 = .ok (.ifCond .eq 5, 3) := by decide +kernel
theorem dL_law_489 : decode cL_law 489 = .ok (.iconst 0, 1) := by decide +kernel
theorem dL_law_490 : decode cL_law 490 = .ok (.ireturn, 1) := by decide +kernel
theorem dL_law_491 : decode cL_law 491 = .ok (.goto 1558, 3) := by decide +kernel
theorem dL_law_494 : decode cL_law 494 = .ok (.aload_n 1, 1) := by decide +kernel
theorem dL_law_495 : decode cL_law 495 = .ok (.aload_n 0, 1) := by decide +kernel
theorem dL_law_496 : decode cL_law 496 = .ok (.iload 4, 2) := by decide +kernel
theorem dL_law_498 : decode cL_law 498 = .ok (.iconst 1, 1) := by decide +kernel
theorem dL_law_499 : decode cL_law 499 = .ok (.iadd, 1) := by decide +kernel
theorem dL_law_500 : decode cL_law 500 = .ok (.iaload, 1) := by decide +kernel
theorem dL_law_501 : decode cL_law 501 = .ok (.aload_n 0, 1) := by decide +kernel
theorem dL_law_502 : decode cL_law 502 = .ok (.iload 4, 2) := by decide +kernel
theorem dL_law_504 : decode cL_law 504 = .ok (.iconst 2, 1) := by decide +kernel
theorem dL_law_505 : decode cL_law 505 = .ok (.iadd, 1) := by decide +kernel
theorem dL_law_506 : decode cL_law 506 = .ok (.iaload, 1) := by decide +kernel
theorem dL_law_507 : decode cL_law 507 = .ok (.aload_n 0, 1) := by decide +kernel
theorem dL_law_508 : decode cL_law 508 = .ok (.iload 4, 2) := by decide +kernel
theorem dL_law_510 : decode cL_law 510 = .ok (.iconst 3, 1) := by decide +kernel
theorem dL_law_511 : decode cL_law 511 = .ok (.iadd, 1) := by decide +kernel
theorem dL_law_512 : decode cL_law 512 = .ok (.iaload, 1) := by decide +kernel
theorem dL_law_513 : decode cL_law 513 = .ok (.aload_n 0, 1) := by decide +kernel
theorem dL_law_514 : decode cL_law 514 = .ok (.iload 4, 2) := by decide +kernel
theorem dL_law_516 : decode cL_law 516 = .ok (.iconst 4, 1) := by decide +kernel
theorem dL_law_517 : decode cL_law 517 = .ok (.iadd, 1) := by decide +kernel
theorem dL_law_518 : decode cL_law 518 = .ok (.iaload, 1) := by decide +kernel
theorem dL_law_519 : decode cL_law 519 = .ok (.aload_n 3, 1) := by decide +kernel
theorem dL_law_520 : decode cL_law 520 = .ok (.invokestatic 134, 3) := by decide +kernel
theorem dL_law_523 : decode cL_law 523 = .ok (.istore 5, 2) := by decide +kernel
theorem dL_law_525 : decode cL_law 525 = .ok (.aload_n 2, 1) := by decide +kernel
theorem dL_law_526 : decode cL_law 526 = .ok (.aload_n 0, 1) := by decide +kernel
theorem dL_law_527 : decode cL_law 527 = .ok (.iload 4, 2) := by decide +kernel
theorem dL_law_529 : decode cL_law 529 = .ok (.iconst 1, 1) := by decide +kernel
theorem dL_law_530 : decode cL_law 530 = .ok (.iadd, 1) := by decide +kernel
theorem dL_law_531 : decode cL_law 531 = .ok (.iaload, 1) := by decide +kernel
theorem dL_law_532 : decode cL_law 532 = .ok (.aload_n 0, 1) := by decide +kernel
theorem dL_law_533 : decode cL_law 533 = .ok (.iload 4, 2) := by decide +kernel
theorem dL_law_535 : decode cL_law 535 = .ok (.iconst 2, 1) := by decide +kernel
theorem dL_law_536 : decode cL_law 536 = .ok (.iadd, 1) := by decide +kernel
theorem dL_law_537 : decode cL_law 537 = .ok (.iaload, 1) := by decide +kernel
theorem dL_law_538 : decode cL_law 538 = .ok (.aload_n 0, 1) := by decide +kernel
theorem dL_law_539 : decode cL_law 539 = .ok (.iload 4, 2) := by decide +kernel
theorem dL_law_541 : decode cL_law 541 = .ok (.iconst 3, 1) := by decide +kernel
theorem dL_law_542 : decode cL_law 542 = .ok (.iadd, 1) := by decide +kernel
theorem dL_law_543 : decode cL_law 543 = .ok (.iaload, 1) := by decide +kernel
theorem dL_law_544 : decode cL_law 544 = .ok (.aload_n 0, 1) := by decide +kernel
theorem dL_law_545 : decode cL_law 545 = .ok (.iload 4, 2) := by decide +kernel
theorem dL_law_547 : decode cL_law 547 = .ok (.iconst 4, 1) := by decide +kernel
theorem dL_law_548 : decode cL_law 548 = .ok (.iadd, 1) := by decide +kernel
theorem dL_law_549 : decode cL_law 549 = .ok (.iaload, 1) := by decide +kernel
theorem dL_law_550 : decode cL_law 550 = .ok (.invokevirtual 137, 3) := by decide +kernel
theorem dL_law_553 : decode cL_law 553 = .ok (.istore 6, 2) := by decide +kernel
theorem dL_law_555 : decode cL_law 555 = .ok (.aload_n 2, 1) := by decide +kernel
theorem dL_law_556 : decode cL_law 556 = .ok (.invokevirtual 109, 3) := by decide +kernel
theorem dL_law_559 : decode cL_law 559 = .ok (.iload 5, 2) := by decide +kernel
theorem dL_law_561 : decode cL_law 561 = .ok (.if_icmp .eq 5, 3) := by decide +kernel
theorem dL_law_564 : decode cL_law 564 = .ok (.iconst 0, 1) := by decide +kernel
theorem dL_law_565 : decode cL_law 565 = .ok (.ireturn, 1) := by decide +kernel
theorem dL_law_566 : decode cL_law 566 = .ok (.iload 5, 2) := by decide +kernel
theorem dL_law_568 : decode cL_law 568 = .ok (.ifCond .ne 15, 3) := by decide +kernel
theorem dL_law_571 : decode cL_law 571 = .ok (.aload_n 3, 1) := by decide +kernel
theorem dL_law_572 : decode cL_law 572 = .ok (.iconst 0, 1) := by decide +kernel
theorem dL_law_573 : decode cL_law 573 = .ok (.laload, 1) := by decide +kernel
theorem dL_law_574 : decode cL_law 574 = .ok (.iload 6, 2) := by decide +kernel
theorem dL_law_576 : decode cL_law 576 = .ok (.i2l, 1) := by decide +kernel
theorem dL_law_577 : decode cL_law 577 = .ok (.lcmp, 1) := by decide +kernel
theorem dL_law_578 : decode cL_law 578 = .ok (.ifCond .eq 5, 3) := by decide +kernel
theorem dL_law_581 : decode cL_law 581 = .ok (.iconst 0, 1) := by decide +kernel
theorem dL_law_582 : decode cL_law 582 = .ok (.ireturn, 1) := by decide +kernel
theorem dL_law_583 : decode cL_law 583 = .ok (.goto 1466, 3) := by decide +kernel
theorem dL_law_586 : decode cL_law 586 = .ok (.aload_n 1, 1) := by decide +kernel
theorem dL_law_587 : decode cL_law 587 = .ok (.aload_n 0, 1) := by decide +kernel
theorem dL_law_588 : decode cL_law 588 = .ok (.iload 4, 2) := by decide +kernel
theorem dL_law_590 : decode cL_law 590 = .ok (.iconst 1, 1) := by decide +kernel
theorem dL_law_591 : decode cL_law 591 = .ok (.iadd, 1) := by decide +kernel
theorem dL_law_592 : decode cL_law 592 = .ok (.iaload, 1) := by decide +kernel
theorem dL_law_593 : decode cL_law 593 = .ok (.aload_n 0, 1) := by decide +kernel
theorem dL_law_594 : decode cL_law 594 = .ok (.iload 4, 2) := by decide +kernel
theorem dL_law_596 : decode cL_law 596 = .ok (.iconst 2, 1) := by decide +kernel
theorem dL_law_597 : decode cL_law 597 = .ok (.iadd, 1) := by decide +kernel
theorem dL_law_598 : decode cL_law 598 = .ok (.iaload, 1) := by decide +kernel
theorem dL_law_599 : decode cL_law 599 = .ok (.aload_n 3, 1) := by decide +kernel
theorem dL_law_600 : decode cL_law 600 = .ok (.invokestatic 138, 3) := by decide +kernel
theorem dL_law_603 : decode cL_law 603 = .ok (.istore 5, 2) := by decide +kernel
theorem dL_law_605 : decode cL_law 605 = .ok (.aload_n 2, 1) := by decide +kernel
theorem dL_law_606 : decode cL_law 606 = .ok (.aload_n 0, 1) := by decide +kernel
theorem dL_law_607 : decode cL_law 607 = .ok (.iload 4, 2) := by decide +kernel
theorem dL_law_609 : decode cL_law 609 = .ok (.iconst 1, 1) := by decide +kernel
theorem dL_law_610 : decode cL_law 610 = .ok (.iadd, 1) := by decide +kernel
theorem dL_law_611 : decode cL_law 611 = .ok (.iaload, 1) := by decide +kernel
theorem dL_law_612 : decode cL_law 612 = .ok (.aload_n 0, 1) := by decide +kernel
theorem dL_law_613 : decode cL_law 613 = .ok (.iload 4, 2) := by decide +kernel
theorem dL_law_615 : decode cL_law 615 = .ok (.iconst 2, 1) := by decide +kernel
theorem dL_law_616 : decode cL_law 616 = .ok (.iadd, 1) := by decide +kernel
theorem dL_law_617 : decode cL_law 617 = .ok (.iaload, 1) := by decide +kernel
theorem dL_law_618 : decode cL_law 618 = .ok (.invokevirtual 140, 3) := by decide +kernel
theorem dL_law_621 : decode cL_law 621 = .ok (.istore 6, 2) := by decide +kernel
theorem dL_law_623 : decode cL_law 623 = .ok (.aload_n 2, 1) := by decide +kernel
theorem dL_law_624 : decode cL_law 624 = .ok (.invokevirtual 109, 3) := by decide +kernel
theorem dL_law_627 : decode cL_law 627 = .ok (.iload 5, 2) := by decide +kernel
theorem dL_law_629 : decode cL_law 629 = .ok (.if_icmp .eq 5, 3) := by decide +kernel
theorem dL_law_632 : decode cL_law 632 = .ok (.iconst 0, 1) := by decide +kernel
theorem dL_law_633 : decode cL_law 633 = .ok (.ireturn, 1) := by decide +kernel
theorem dL_law_634 : decode cL_law 634 = .ok (.iload 5, 2) := by decide +kernel
theorem dL_law_636 : decode cL_law 636 = .ok (.ifCond .ne 15, 3) := by decide +kernel
theorem dL_law_639 : decode cL_law 639 = .ok (.aload_n 3, 1) := by decide +kernel
theorem dL_law_640 : decode cL_law 640 = .ok (.iconst 0, 1) := by decide +kernel
theorem dL_law_641 : decode cL_law 641 = .ok (.laload, 1) := by decide +kernel
theorem dL_law_642 : decode cL_law 642 = .ok (.iload 6, 2) := by decide +kernel
theorem dL_law_644 : decode cL_law 644 = .ok (.i2l, 1) := by decide +kernel
theorem dL_law_645 : decode cL_law 645 = .ok (.lcmp, 1) := by decide +kernel
theorem dL_law_646 : decode cL_law 646 = .ok (.ifCond .eq 5, 3) := by decide +kernel
theorem dL_law_649 : decode cL_law 649 = .ok (.iconst 0, 1) := by decide +kernel
theorem dL_law_650 : decode cL_law 650 = .ok (.ireturn, 1) := by decide +kernel
theorem dL_law_651 : decode cL_law 651 = .ok (.goto 1398, 3) := by decide +kernel
theorem dL_law_654 : decode cL_law 654 = .ok (.aload_n 1, 1) := by decide +kernel
theorem dL_law_655 : decode cL_law 655 = .ok (.aload_n 0, 1) := by decide +kernel
theorem dL_law_656 : decode cL_law 656 = .ok (.iload 4, 2) := by decide +kernel
theorem dL_law_658 : decode cL_law 658 = .ok (.iconst 1, 1) := by decide +kernel
theorem dL_law_659 : decode cL_law 659 = .ok (.iadd, 1) := by decide +kernel
theorem dL_law_660 : decode cL_law 660 = .ok (.iaload, 1) := by decide +kernel
theorem dL_law_661 : decode cL_law 661 = .ok (.aload_n 0, 1) := by decide +kernel
theorem dL_law_662 : decode cL_law 662 = .ok (.iload 4, 2) := by decide +kernel
theorem dL_law_664 : decode cL_law 664 = .ok (.iconst 2, 1) := by decide +kernel
theorem dL_law_665 : decode cL_law 665 = .ok (.iadd, 1) := by decide +kernel
theorem dL_law_666 : decode cL_law 666 = .ok (.iaload, 1) := by decide +kernel
theorem dL_law_667 : decode cL_law 667 = .ok (.aload_n 0, 1) := by decide +kernel
theorem dL_law_668 : decode cL_law 668 = .ok (.iload 4, 2) := by decide +kernel
theorem dL_law_670 : decode cL_law 670 = .ok (.iconst 3, 1) := by decide +kernel
theorem dL_law_671 : decode cL_law 671 = .ok (.iadd, 1) := by decide +kernel
theorem dL_law_672 : decode cL_law 672 = .ok (.iaload, 1) := by decide +kernel
theorem dL_law_673 : decode cL_law 673 = .ok (.aload_n 3, 1) := by decide +kernel
theorem dL_law_674 : decode cL_law 674 = .ok (.invokestatic 141, 3) := by decide +kernel
theorem dL_law_677 : decode cL_law 677 = .ok (.istore 5, 2) := by decide +kernel
theorem dL_law_679 : decode cL_law 679 = .ok (.aload_n 2, 1) := by decide +kernel
theorem dL_law_680 : decode cL_law 680 = .ok (.aload_n 0, 1) := by decide +kernel
theorem dL_law_681 : decode cL_law 681 = .ok (.iload 4, 2) := by decide +kernel
theorem dL_law_683 : decode cL_law 683 = .ok (.iconst 1, 1) := by decide +kernel
theorem dL_law_684 : decode cL_law 684 = .ok (.iadd, 1) := by decide +kernel
theorem dL_law_685 : decode cL_law 685 = .ok (.iaload, 1) := by decide +kernel
theorem dL_law_686 : decode cL_law 686 = .ok (.aload_n 0, 1) := by decide +kernel
theorem dL_law_687 : decode cL_law 687 = .ok (.iload 4, 2) := by decide +kernel
theorem dL_law_689 : decode cL_law 689 = .ok (.iconst 2, 1) := by decide +kernel
theorem dL_law_690 : decode cL_law 690 = .ok (.iadd, 1) := by decide +kernel
theorem dL_law_691 : decode cL_law 691 = .ok (.iaload, 1) := by decide +kernel
theorem dL_law_692 : decode cL_law 692 = .ok (.aload_n 0, 1) := by decide +kernel
theorem dL_law_693 : decode cL_law 693 = .ok (.iload 4, 2) := by decide +kernel
theorem dL_law_695 : decode cL_law 695 = .ok (.iconst 3, 1) := by decide +kernel
theorem dL_law_696 : decode cL_law 696 = .ok (.iadd, 1) := by decide +kernel
theorem dL_law_697 : decode cL_law 697 = .ok (.iaload, 1) := by decide +kernel
theorem dL_law_698 : decode cL_law 698 = .ok (.invokevirtual 144, 3) := by decide +kernel
theorem dL_law_701 : decode cL_law 701 = .ok (.istore 6, 2) := by decide +kernel
theorem dL_law_703 : decode cL_law 703 = .ok (.aload_n 2, 1) := by decide +kernel
theorem dL_law_704 : decode cL_law 704 = .ok (.invokevirtual 109, 3) := by decide +kernel
theorem dL_law_707 : decode cL_law 707 = .ok (.iload 5, 2) := by decide +kernel
theorem dL_law_709 : decode cL_law 709 = .ok (.if_icmp .eq 5, 3) := by decide +kernel
theorem dL_law_712 : decode cL_law 712 = .ok (.iconst 0, 1) := by decide +kernel
theorem dL_law_713 : decode cL_law 713 = .ok (.ireturn, 1) := by decide +kernel
theorem dL_law_714 : decode cL_law 714 = .ok (.iload 5, 2) := by decide +kernel
theorem dL_law_716 : decode cL_law 716 = .ok (.ifCond .ne 15, 3) := by decide +kernel
theorem dL_law_719 : decode cL_law 719 = .ok (.aload_n 3, 1) := by decide +kernel
theorem dL_law_720 : decode cL_law 720 = .ok (.iconst 0, 1) := by decide +kernel
theorem dL_law_721 : decode cL_law 721 = .ok (.laload, 1) := by decide +kernel
theorem dL_law_722 : decode cL_law 722 = .ok (.iload 6, 2) := by decide +kernel
theorem dL_law_724 : decode cL_law 724 = .ok (.i2l, 1) := by decide +kernel
theorem dL_law_725 : decode cL_law 725 = .ok (.lcmp, 1) := by decide +kernel
theorem dL_law_726 : decode cL_law 726 = .ok (.ifCond .eq 5, 3) := by decide +kernel
theorem dL_law_729 : decode cL_law 729 = .ok (.iconst 0, 1) := by decide +kernel
theorem dL_law_730 : decode cL_law 730 = .ok (.ireturn, 1) := by decide +kernel
theorem dL_law_731 : decode cL_law 731 = .ok (.goto 1318, 3) := by decide +kernel
theorem dL_law_734 : decode cL_law 734 = .ok (.aload_n 1, 1) := by decide +kernel
theorem dL_law_735 : decode cL_law 735 = .ok (.aload_n 0, 1) := by decide +kernel
theorem dL_law_736 : decode cL_law 736 = .ok (.iload 4, 2) := by decide +kernel
theorem dL_law_738 : decode cL_law 738 = .ok (.iconst 1, 1) := by decide +kernel
theorem dL_law_739 : decode cL_law 739 = .ok (.iadd, 1) := by decide +kernel
theorem dL_law_740 : decode cL_law 740 = .ok (.iaload, 1) := by decide +kernel
theorem dL_law_741 : decode cL_law 741 = .ok (.aload_n 0, 1) := by decide +kernel
theorem dL_law_742 : decode cL_law 742 = .ok (.iload 4, 2) := by decide +kernel
theorem dL_law_744 : decode cL_law 744 = .ok (.iconst 2, 1) := by decide +kernel
theorem dL_law_745 : decode cL_law 745 = .ok (.iadd, 1) := by decide +kernel
theorem dL_law_746 : decode cL_law 746 = .ok (.iaload, 1) := by decide +kernel
theorem dL_law_747 : decode cL_law 747 = .ok (.aload_n 0, 1) := by decide +kernel
theorem dL_law_748 : decode cL_law 748 = .ok (.iload 4, 2) := by decide +kernel
theorem dL_law_750 : decode cL_law 750 = .ok (.iconst 3, 1) := by decide +kernel
theorem dL_law_751 : decode cL_law 751 = .ok (.iadd, 1) := by decide +kernel
theorem dL_law_752 : decode cL_law 752 = .ok (.iaload, 1) := by decide +kernel
theorem dL_law_753 : decode cL_law 753 = .ok (.aload_n 3, 1) := by decide +kernel
theorem dL_law_754 : decode cL_law 754 = .ok (.invokestatic 145, 3) := by decide +kernel
theorem dL_law_757 : decode cL_law 757 = .ok (.istore 5, 2) := by decide +kernel
theorem dL_law_759 : decode cL_law 759 = .ok (.aload_n 2, 1) := by decide +kernel
theorem dL_law_760 : decode cL_law 760 = .ok (.aload_n 0, 1) := by decide +kernel
theorem dL_law_761 : decode cL_law 761 = .ok (.iload 4, 2) := by decide +kernel
theorem dL_law_763 : decode cL_law 763 = .ok (.iconst 1, 1) := by decide +kernel
theorem dL_law_764 : decode cL_law 764 = .ok (.iadd, 1) := by decide +kernel
theorem dL_law_765 : decode cL_law 765 = .ok (.iaload, 1) := by decide +kernel
theorem dL_law_766 : decode cL_law 766 = .ok (.aload_n 0, 1) := by decide +kernel
theorem dL_law_767 : decode cL_law 767 = .ok (.iload 4, 2) := by decide +kernel
theorem dL_law_769 : decode cL_law 769 = .ok (.iconst 2, 1) := by decide +kernel
theorem dL_law_770 : decode cL_law 770 = .ok (.iadd, 1) := by decide +kernel
theorem dL_law_771 : decode cL_law 771 = .ok (.iaload, 1) := by decide +kernel
theorem dL_law_772 : decode cL_law 772 = .ok (.aload_n 0, 1) := by decide +kernel
theorem dL_law_773 : decode cL_law 773 = .ok (.iload 4, 2) := by decide +kernel
theorem dL_law_775 : decode cL_law 775 = .ok (.iconst 3, 1) := by decide +kernel
theorem dL_law_776 : decode cL_law 776 = .ok (.iadd, 1) := by decide +kernel
theorem dL_law_777 : decode cL_law 777 = .ok (.iaload, 1) := by decide +kernel
theorem dL_law_778 : decode cL_law 778 = .ok (.invokevirtual 147, 3) := by decide +kernel
theorem dL_law_781 : decode cL_law 781 = .ok (.istore 6, 2) := by decide +kernel
theorem dL_law_783 : decode cL_law 783 = .ok (.aload_n 2, 1) := by decide +kernel
theorem dL_law_784 : decode cL_law 784 = .ok (.invokevirtual 109, 3) := by decide +kernel
theorem dL_law_787 : decode cL_law 787 = .ok (.iload 5, 2) := by decide +kernel
theorem dL_law_789 : decode cL_law 789 = .ok (.if_icmp .eq 5, 3) := by decide +kernel
theorem dL_law_792 : decode cL_law 792 = .ok (.iconst 0, 1) := by decide +kernel
theorem dL_law_793 : decode cL_law 793 = .ok (.ireturn, 1) := by decide +kernel
theorem dL_law_794 : decode cL_law 794 = .ok (.iload 5, 2) := by decide +kernel
theorem dL_law_796 : decode cL_law 796 = .ok (.ifCond .ne 15, 3) := by decide +kernel
theorem dL_law_799 : decode cL_law 799 = .ok (.aload_n 3, 1) := by decide +kernel
theorem dL_law_800 : decode cL_law 800 = .ok (.iconst 0, 1) := by decide +kernel
theorem dL_law_801 : decode cL_law 801 = .ok (.laload, 1) := by decide +kernel
theorem dL_law_802 : decode cL_law 802 = .ok (.iload 6, 2) := by decide +kernel
theorem dL_law_804 : decode cL_law 804 = .ok (.i2l, 1) := by decide +kernel
theorem dL_law_805 : decode cL_law 805 = .ok (.lcmp, 1) := by decide +kernel
theorem dL_law_806 : decode cL_law 806 = .ok (.ifCond .eq 5, 3) := by decide +kernel
theorem dL_law_809 : decode cL_law 809 = .ok (.iconst 0, 1) := by decide +kernel
theorem dL_law_810 : decode cL_law 810 = .ok (.ireturn, 1) := by decide +kernel
theorem dL_law_811 : decode cL_law 811 = .ok (.goto 1238, 3) := by decide +kernel
theorem dL_law_814 : decode cL_law 814 = .ok (.aload_n 1, 1) := by decide +kernel
theorem dL_law_815 : decode cL_law 815 = .ok (.aload_n 0, 1) := by decide +kernel
theorem dL_law_816 : decode cL_law 816 = .ok (.iload 4, 2) := by decide +kernel
theorem dL_law_818 : decode cL_law 818 = .ok (.iconst 1, 1) := by decide +kernel
theorem dL_law_819 : decode cL_law 819 = .ok (.iadd, 1) := by decide +kernel
theorem dL_law_820 : decode cL_law 820 = .ok (.iaload, 1) := by decide +kernel
theorem dL_law_821 : decode cL_law 821 = .ok (.aload_n 0, 1) := by decide +kernel
theorem dL_law_822 : decode cL_law 822 = .ok (.iload 4, 2) := by decide +kernel
theorem dL_law_824 : decode cL_law 824 = .ok (.iconst 2, 1) := by decide +kernel
theorem dL_law_825 : decode cL_law 825 = .ok (.iadd, 1) := by decide +kernel
theorem dL_law_826 : decode cL_law 826 = .ok (.iaload, 1) := by decide +kernel
theorem dL_law_827 : decode cL_law 827 = .ok (.aload_n 0, 1) := by decide +kernel
theorem dL_law_828 : decode cL_law 828 = .ok (.iload 4, 2) := by decide +kernel
theorem dL_law_830 : decode cL_law 830 = .ok (.iconst 3, 1) := by decide +kernel
theorem dL_law_831 : decode cL_law 831 = .ok (.iadd, 1) := by decide +kernel
theorem dL_law_832 : decode cL_law 832 = .ok (.iaload, 1) := by decide +kernel
theorem dL_law_833 : decode cL_law 833 = .ok (.aload_n 0, 1) := by decide +kernel
theorem dL_law_834 : decode cL_law 834 = .ok (.iload 4, 2) := by decide +kernel
theorem dL_law_836 : decode cL_law 836 = .ok (.iconst 4, 1) := by decide +kernel
theorem dL_law_837 : decode cL_law 837 = .ok (.iadd, 1) := by decide +kernel
theorem dL_law_838 : decode cL_law 838 = .ok (.iaload, 1) := by decide +kernel
theorem dL_law_839 : decode cL_law 839 = .ok (.aload_n 0, 1) := by decide +kernel
theorem dL_law_840 : decode cL_law 840 = .ok (.iload 4, 2) := by decide +kernel
theorem dL_law_842 : decode cL_law 842 = .ok (.iconst 5, 1) := by decide +kernel
theorem dL_law_843 : decode cL_law 843 = .ok (.iadd, 1) := by decide +kernel
theorem dL_law_844 : decode cL_law 844 = .ok (.iaload, 1) := by decide +kernel
theorem dL_law_845 : decode cL_law 845 = .ok (.aload_n 3, 1) := by decide +kernel
theorem dL_law_846 : decode cL_law 846 = .ok (.invokestatic 148, 3) := by decide +kernel
theorem dL_law_849 : decode cL_law 849 = .ok (.istore 5, 2) := by decide +kernel
theorem dL_law_851 : decode cL_law 851 = .ok (.aload_n 2, 1) := by decide +kernel
theorem dL_law_852 : decode cL_law 852 = .ok (.aload_n 0, 1) := by decide +kernel
theorem dL_law_853 : decode cL_law 853 = .ok (.iload 4, 2) := by decide +kernel
theorem dL_law_855 : decode cL_law 855 = .ok (.iconst 1, 1) := by decide +kernel
theorem dL_law_856 : decode cL_law 856 = .ok (.iadd, 1) := by decide +kernel
theorem dL_law_857 : decode cL_law 857 = .ok (.iaload, 1) := by decide +kernel
theorem dL_law_858 : decode cL_law 858 = .ok (.aload_n 0, 1) := by decide +kernel
theorem dL_law_859 : decode cL_law 859 = .ok (.iload 4, 2) := by decide +kernel
theorem dL_law_861 : decode cL_law 861 = .ok (.iconst 2, 1) := by decide +kernel
theorem dL_law_862 : decode cL_law 862 = .ok (.iadd, 1) := by decide +kernel
theorem dL_law_863 : decode cL_law 863 = .ok (.iaload, 1) := by decide +kernel
theorem dL_law_864 : decode cL_law 864 = .ok (.aload_n 0, 1) := by decide +kernel
theorem dL_law_865 : decode cL_law 865 = .ok (.iload 4, 2) := by decide +kernel
theorem dL_law_867 : decode cL_law 867 = .ok (.iconst 3, 1) := by decide +kernel
theorem dL_law_868 : decode cL_law 868 = .ok (.iadd, 1) := by decide +kernel
theorem dL_law_869 : decode cL_law 869 = .ok (.iaload, 1) := by decide +kernel
theorem dL_law_870 : decode cL_law 870 = .ok (.aload_n 0, 1) := by decide +kernel
theorem dL_law_871 : decode cL_law 871 = .ok (.iload 4, 2) := by decide +kernel
theorem dL_law_873 : decode cL_law 873 = .ok (.iconst 4, 1) := by decide +kernel
theorem dL_law_874 : decode cL_law 874 = .ok (.iadd, 1) := by decide +kernel
theorem dL_law_875 : decode cL_law 875 = .ok (.iaload, 1) := by decide +kernel
theorem dL_law_876 : decode cL_law 876 = .ok (.aload_n 0, 1) := by decide +kernel
theorem dL_law_877 : decode cL_law 877 = .ok (.iload 4, 2) := by decide +kernel
theorem dL_law_879 : decode cL_law 879 = .ok (.iconst 5, 1) := by decide +kernel
theorem dL_law_880 : decode cL_law 880 = .ok (.iadd, 1) := by decide +kernel
theorem dL_law_881 : decode cL_law 881 = .ok (.iaload, 1) := by decide +kernel
theorem dL_law_882 : decode cL_law 882 = .ok (.invokevirtual 151, 3) := by decide +kernel
theorem dL_law_885 : decode cL_law 885 = .ok (.istore 6, 2) := by decide +kernel
theorem dL_law_887 : decode cL_law 887 = .ok (.aload_n 2, 1) := by decide +kernel
theorem dL_law_888 : decode cL_law 888 = .ok (.invokevirtual 109, 3) := by decide +kernel
theorem dL_law_891 : decode cL_law 891 = .ok (.iload 5, 2) := by decide +kernel
theorem dL_law_893 : decode cL_law 893 = .ok (.if_icmp .eq 5, 3) := by decide +kernel
theorem dL_law_896 : decode cL_law 896 = .ok (.iconst 0, 1) := by decide +kernel
theorem dL_law_897 : decode cL_law 897 = .ok (.ireturn, 1) := by decide +kernel
theorem dL_law_898 : decode cL_law 898 = .ok (.iload 5, 2) := by decide +kernel
theorem dL_law_900 : decode cL_law 900 = .ok (.ifCond .ne 15, 3) := by decide +kernel
theorem dL_law_903 : decode cL_law 903 = .ok (.aload_n 3, 1) := by decide +kernel
theorem dL_law_904 : decode cL_law 904 = .ok (.iconst 0, 1) := by decide +kernel
theorem dL_law_905 : decode cL_law 905 = .ok (.laload, 1) := by decide +kernel
theorem dL_law_906 : decode cL_law 906 = .ok (.iload 6, 2) := by decide +kernel
theorem dL_law_908 : decode cL_law 908 = .ok (.i2l, 1) := by decide +kernel
theorem dL_law_909 : decode cL_law 909 = .ok (.lcmp, 1) := by decide +kernel
theorem dL_law_910 : decode cL_law 910 = .ok (.ifCond .eq 5, 3) := by decide +kernel
theorem dL_law_913 : decode cL_law 913 = .ok (.iconst 0, 1) := by decide +kernel
theorem dL_law_914 : decode cL_law 914 = .ok (.ireturn, 1) := by decide +kernel
theorem dL_law_915 : decode cL_law 915 = .ok (.goto 1134, 3) := by decide +kernel
theorem dL_law_918 : decode cL_law 918 = .ok (.aload_n 1, 1) := by decide +kernel
theorem dL_law_919 : decode cL_law 919 = .ok (.aload_n 0, 1) := by decide +kernel
theorem dL_law_920 : decode cL_law 920 = .ok (.iload 4, 2) := by decide +kernel
theorem dL_law_922 : decode cL_law 922 = .ok (.iconst 1, 1) := by decide +kernel
theorem dL_law_923 : decode cL_law 923 = .ok (.iadd, 1) := by decide +kernel
theorem dL_law_924 : decode cL_law 924 = .ok (.iaload, 1) := by decide +kernel
theorem dL_law_925 : decode cL_law 925 = .ok (.aload_n 0, 1) := by decide +kernel
theorem dL_law_926 : decode cL_law 926 = .ok (.iload 4, 2) := by decide +kernel
theorem dL_law_928 : decode cL_law 928 = .ok (.iconst 2, 1) := by decide +kernel
theorem dL_law_929 : decode cL_law 929 = .ok (.iadd, 1) := by decide +kernel
theorem dL_law_930 : decode cL_law 930 = .ok (.iaload, 1) := by decide +kernel
theorem dL_law_931 : decode cL_law 931 = .ok (.aload_n 0, 1) := by decide +kernel
theorem dL_law_932 : decode cL_law 932 = .ok (.iload 4, 2) := by decide +kernel
theorem dL_law_934 : decode cL_law 934 = .ok (.iconst 3, 1) := by decide +kernel
theorem dL_law_935 : decode cL_law 935 = .ok (.iadd, 1) := by decide +kernel
theorem dL_law_936 : decode cL_law 936 = .ok (.iaload, 1) := by decide +kernel
theorem dL_law_937 : decode cL_law 937 = .ok (.aload_n 3, 1) := by decide +kernel
theorem dL_law_938 : decode cL_law 938 = .ok (.invokestatic 152, 3) := by decide +kernel
theorem dL_law_941 : decode cL_law 941 = .ok (.istore 5, 2) := by decide +kernel
theorem dL_law_943 : decode cL_law 943 = .ok (.aload_n 2, 1) := by decide +kernel
theorem dL_law_944 : decode cL_law 944 = .ok (.aload_n 0, 1) := by decide +kernel
theorem dL_law_945 : decode cL_law 945 = .ok (.iload 4, 2) := by decide +kernel
theorem dL_law_947 : decode cL_law 947 = .ok (.iconst 1, 1) := by decide +kernel
theorem dL_law_948 : decode cL_law 948 = .ok (.iadd, 1) := by decide +kernel
theorem dL_law_949 : decode cL_law 949 = .ok (.iaload, 1) := by decide +kernel
theorem dL_law_950 : decode cL_law 950 = .ok (.aload_n 0, 1) := by decide +kernel
theorem dL_law_951 : decode cL_law 951 = .ok (.iload 4, 2) := by decide +kernel
theorem dL_law_953 : decode cL_law 953 = .ok (.iconst 2, 1) := by decide +kernel
theorem dL_law_954 : decode cL_law 954 = .ok (.iadd, 1) := by decide +kernel
theorem dL_law_955 : decode cL_law 955 = .ok (.iaload, 1) := by decide +kernel
theorem dL_law_956 : decode cL_law 956 = .ok (.aload_n 0, 1) := by decide +kernel
theorem dL_law_957 : decode cL_law 957 = .ok (.iload 4, 2) := by decide +kernel
theorem dL_law_959 : decode cL_law 959 = .ok (.iconst 3, 1) := by decide +kernel
theorem dL_law_960 : decode cL_law 960 = .ok (.iadd, 1) := by decide +kernel
theorem dL_law_961 : decode cL_law 961 = .ok (.iaload, 1) := by decide +kernel
theorem dL_law_962 : decode cL_law 962 = .ok (.invokevirtual 154, 3) := by decide +kernel
theorem dL_law_965 : decode cL_law 965 = .ok (.istore 6, 2) := by decide +kernel
theorem dL_law_967 : decode cL_law 967 = .ok (.aload_n 2, 1) := by decide +kernel
theorem dL_law_968 : decode cL_law 968 = .ok (.invokevirtual 109, 3) := by decide +kernel
theorem dL_law_971 : decode cL_law 971 = .ok (.iload 5, 2) := by decide +kernel
theorem dL_law_973 : decode cL_law 973 = .ok (.if_icmp .eq 5, 3) := by decide +kernel
theorem dL_law_976 : decode cL_law 976 = .ok (.iconst 0, 1) := by decide +kernel
theorem dL_law_977 : decode cL_law 977 = .ok (.ireturn, 1) := by decide +kernel
theorem dL_law_978 : decode cL_law 978 = .ok (.iload 5, 2) := by decide +kernel
theorem dL_law_980 : decode cL_law 980 = .ok (.ifCond .ne 15, 3) := by decide +kernel
theorem dL_law_983 : decode cL_law 983 = .ok (.aload_n 3, 1) := by decide +kernel
theorem dL_law_984 : decode cL_law 984 = .ok (.iconst 0, 1) := by decide +kernel
theorem dL_law_985 : decode cL_law 985 = .ok (.laload, 1) := by decide +kernel
theorem dL_law_986 : decode cL_law 986 = .ok (.iload 6, 2) := by decide +kernel
theorem dL_law_988 : decode cL_law 988 = .ok (.i2l, 1) := by decide +kernel
theorem dL_law_989 : decode cL_law 989 = .ok (.lcmp, 1) := by decide +kernel
theorem dL_law_990 : decode cL_law 990 = .ok (.ifCond .eq 5, 3) := by decide +kernel
theorem dL_law_993 : decode cL_law 993 = .ok (.iconst 0, 1) := by decide +kernel
theorem dL_law_994 : decode cL_law 994 = .ok (.ireturn, 1) := by decide +kernel
theorem dL_law_995 : decode cL_law 995 = .ok (.goto 1054, 3) := by decide +kernel
theorem dL_law_998 : decode cL_law 998 = .ok (.aload_n 1, 1) := by decide +kernel
theorem dL_law_999 : decode cL_law 999 = .ok (.aload_n 0, 1) := by decide +kernel
theorem dL_law_1000 : decode cL_law 1000 = .ok (.iload 4, 2) := by decide +kernel
theorem dL_law_1002 : decode cL_law 1002 = .ok (.iconst 1, 1) := by decide +kernel
theorem dL_law_1003 : decode cL_law 1003 = .ok (.iadd, 1) := by decide +kernel
theorem dL_law_1004 : decode cL_law 1004 = .ok (.iaload, 1) := by decide +kernel
theorem dL_law_1005 : decode cL_law 1005 = .ok (.aload_n 0, 1) := by decide +kernel
theorem dL_law_1006 : decode cL_law 1006 = .ok (.iload 4, 2) := by decide +kernel
theorem dL_law_1008 : decode cL_law 1008 = .ok (.iconst 2, 1) := by decide +kernel
theorem dL_law_1009 : decode cL_law 1009 = .ok (.iadd, 1) := by decide +kernel
theorem dL_law_1010 : decode cL_law 1010 = .ok (.iaload, 1) := by decide +kernel
theorem dL_law_1011 : decode cL_law 1011 = .ok (.aload_n 0, 1) := by decide +kernel
theorem dL_law_1012 : decode cL_law 1012 = .ok (.iload 4, 2) := by decide +kernel
theorem dL_law_1014 : decode cL_law 1014 = .ok (.iconst 3, 1) := by decide +kernel
theorem dL_law_1015 : decode cL_law 1015 = .ok (.iadd, 1) := by decide +kernel
theorem dL_law_1016 : decode cL_law 1016 = .ok (.iaload, 1) := by decide +kernel
theorem dL_law_1017 : decode cL_law 1017 = .ok (.aload_n 0, 1) := by decide +kernel
theorem dL_law_1018 : decode cL_law 1018 = .ok (.iload 4, 2) := by decide +kernel
theorem dL_law_1020 : decode cL_law 1020 = .ok (.iconst 4, 1) := by decide +kernel
theorem dL_law_1021 : decode cL_law 1021 = .ok (.iadd, 1) := by decide +kernel
theorem dL_law_1022 : decode cL_law 1022 = .ok (.iaload, 1) := by decide +kernel
theorem dL_law_1023 : decode cL_law 1023 = .ok (.aload_n 3, 1) := by decide +kernel
theorem dL_law_1024 : decode cL_law 1024 = .ok (.invokestatic 155, 3) := by decide +kernel
theorem dL_law_1027 : decode cL_law 1027 = .ok (.istore 5, 2) := by decide +kernel
theorem dL_law_1029 : decode cL_law 1029 = .ok (.aload_n 2, 1) := by decide +kernel
theorem dL_law_1030 : decode cL_law 1030 = .ok (.aload_n 0, 1) := by decide +kernel
theorem dL_law_1031 : decode cL_law 1031 = .ok (.iload 4, 2) := by decide +kernel
theorem dL_law_1033 : decode cL_law 1033 = .ok (.iconst 1, 1) := by decide +kernel
theorem dL_law_1034 : decode cL_law 1034 = .ok (.iadd, 1) := by decide +kernel
theorem dL_law_1035 : decode cL_law 1035 = .ok (.iaload, 1) := by decide +kernel
theorem dL_law_1036 : decode cL_law 1036 = .ok (.aload_n 0, 1) := by decide +kernel
theorem dL_law_1037 : decode cL_law 1037 = .ok (.iload 4, 2) := by decide +kernel
theorem dL_law_1039 : decode cL_law 1039 = .ok (.iconst 2, 1) := by decide +kernel
theorem dL_law_1040 : decode cL_law 1040 = .ok (.iadd, 1) := by decide +kernel
theorem dL_law_1041 : decode cL_law 1041 = .ok (.iaload, 1) := by decide +kernel
theorem dL_law_1042 : decode cL_law 1042 = .ok (.aload_n 0, 1) := by decide +kernel
theorem dL_law_1043 : decode cL_law 1043 = .ok (.iload 4, 2) := by decide +kernel
theorem dL_law_1045 : decode cL_law 1045 = .ok (.iconst 3, 1) := by decide +kernel
theorem dL_law_1046 : decode cL_law 1046 = .ok (.iadd, 1) := by decide +kernel
theorem dL_law_1047 : decode cL_law 1047 = .ok (.iaload, 1) := by decide +kernel
theorem dL_law_1048 : decode cL_law 1048 = .ok (.aload_n 0, 1) := by decide +kernel
theorem dL_law_1049 : decode cL_law 1049 = .ok (.iload 4, 2) := by decide +kernel
theorem dL_law_1051 : decode cL_law 1051 = .ok (.iconst 4, 1) := by decide +kernel
theorem dL_law_1052 : decode cL_law 1052 = .ok (.iadd, 1) := by decide +kernel
theorem dL_law_1053 : decode cL_law 1053 = .ok (.iaload, 1) := by decide +kernel
theorem dL_law_1054 : decode cL_law 1054 = .ok (.invokevirtual 157, 3) := by decide +kernel
theorem dL_law_1057 : decode cL_law 1057 = .ok (.istore 6, 2) := by decide +kernel
theorem dL_law_1059 : decode cL_law 1059 = .ok (.aload_n 2, 1) := by decide +kernel
theorem dL_law_1060 : decode cL_law 1060 = .ok (.invokevirtual 109, 3) := by decide +kernel
theorem dL_law_1063 : decode cL_law 1063 = .ok (.iload 5, 2) := by decide +kernel
theorem dL_law_1065 : decode cL_law 1065 = .ok (.if_icmp .eq 5, 3) := by decide +kernel
theorem dL_law_1068 : decode cL_law 1068 = .ok (.iconst 0, 1) := by decide +kernel
theorem dL_law_1069 : decode cL_law 1069 = .ok (.ireturn, 1) := by decide +kernel
theorem dL_law_1070 : decode cL_law 1070 = .ok (.iload 5, 2) := by decide +kernel
theorem dL_law_1072 : decode cL_law 1072 = .ok (.ifCond .ne 15, 3) := by decide +kernel
theorem dL_law_1075 : decode cL_law 1075 = .ok (.aload_n 3, 1) := by decide +kernel
theorem dL_law_1076 : decode cL_law 1076 = .ok (.iconst 0, 1) := by decide +kernel
theorem dL_law_1077 : decode cL_law 1077 = .ok (.laload, 1) := by decide +kernel
theorem dL_law_1078 : decode cL_law 1078 = .ok (.iload 6, 2) := by decide +kernel
theorem dL_law_1080 : decode cL_law 1080 = .ok (.i2l, 1) := by decide +kernel
theorem dL_law_1081 : decode cL_law 1081 = .ok (.lcmp, 1) := by decide +kernel
theorem dL_law_1082 : decode cL_law 1082 = .ok (.ifCond .eq 5, 3) := by decide +kernel
theorem dL_law_1085 : decode cL_law 1085 = .ok (.iconst 0, 1) := by decide +kernel
theorem dL_law_1086 : decode cL_law 1086 = .ok (.ireturn, 1) := by decide +kernel
theorem dL_law_1087 : decode cL_law 1087 = .ok (.goto 962, 3) := by decide +kernel
theorem dL_law_1090 : decode cL_law 1090 = .ok (.aload_n 1, 1) := by decide +kernel
theorem dL_law_1091 : decode cL_law 1091 = .ok (.aload_n 0, 1) := by decide +kernel
theorem dL_law_1092 : decode cL_law 1092 = .ok (.iload 4, 2) := by decide +kernel
theorem dL_law_1094 : decode cL_law 1094 = .ok (.iconst 1, 1) := by decide +kernel
theorem dL_law_1095 : decode cL_law 1095 = .ok (.iadd, 1) := by decide +kernel
theorem dL_law_1096 : decode cL_law 1096 = .ok (.iaload, 1) := by decide +kernel
theorem dL_law_1097 : decode cL_law 1097 = .ok (.aload_n 0, 1) := by decide +kernel
theorem dL_law_1098 : decode cL_law 1098 = .ok (.iload 4, 2) := by decide +kernel
theorem dL_law_1100 : decode cL_law 1100 = .ok (.iconst 2, 1) := by decide +kernel
theorem dL_law_1101 : decode cL_law 1101 = .ok (.iadd, 1) := by decide +kernel
theorem dL_law_1102 : decode cL_law 1102 = .ok (.iaload, 1) := by decide +kernel
theorem dL_law_1103 : decode cL_law 1103 = .ok (.aload_n 0, 1) := by decide +kernel
theorem dL_law_1104 : decode cL_law 1104 = .ok (.iload 4, 2) := by decide +kernel
theorem dL_law_1106 : decode cL_law 1106 = .ok (.iconst 3, 1) := by decide +kernel
theorem dL_law_1107 : decode cL_law 1107 = .ok (.iadd, 1) := by decide +kernel
theorem dL_law_1108 : decode cL_law 1108 = .ok (.iaload, 1) := by decide +kernel
theorem dL_law_1109 : decode cL_law 1109 = .ok (.aload_n 0, 1) := by decide +kernel
theorem dL_law_1110 : decode cL_law 1110 = .ok (.iload 4, 2) := by decide +kernel
theorem dL_law_1112 : decode cL_law 1112 = .ok (.iconst 4, 1) := by decide +kernel
theorem dL_law_1113 : decode cL_law 1113 = .ok (.iadd, 1) := by decide +kernel
theorem dL_law_1114 : decode cL_law 1114 = .ok (.iaload, 1) := by decide +kernel
theorem dL_law_1115 : decode cL_law 1115 = .ok (.aload_n 3, 1) := by decide +kernel
theorem dL_law_1116 : decode cL_law 1116 = .ok (.invokestatic 158, 3) := by decide +kernel
theorem dL_law_1119 : decode cL_law 1119 = .ok (.istore 5, 2) := by decide +kernel
theorem dL_law_1121 : decode cL_law 1121 = .ok (.aload_n 2, 1) := by decide +kernel
theorem dL_law_1122 : decode cL_law 1122 = .ok (.aload_n 0, 1) := by decide +kernel
theorem dL_law_1123 : decode cL_law 1123 = .ok (.iload 4, 2) := by decide +kernel
theorem dL_law_1125 : decode cL_law 1125 = .ok (.iconst 1, 1) := by decide +kernel
theorem dL_law_1126 : decode cL_law 1126 = .ok (.iadd, 1) := by decide +kernel
theorem dL_law_1127 : decode cL_law 1127 = .ok (.iaload, 1) := by decide +kernel
theorem dL_law_1128 : decode cL_law 1128 = .ok (.aload_n 0, 1) := by decide +kernel
theorem dL_law_1129 : decode cL_law 1129 = .ok (.iload 4, 2) := by decide +kernel
theorem dL_law_1131 : decode cL_law 1131 = .ok (.iconst 2, 1) := by decide +kernel
theorem dL_law_1132 : decode cL_law 1132 = .ok (.iadd, 1) := by decide +kernel
theorem dL_law_1133 : decode cL_law 1133 = .ok (.iaload, 1) := by decide +kernel
theorem dL_law_1134 : decode cL_law 1134 = .ok (.aload_n 0, 1) := by decide +kernel
theorem dL_law_1135 : decode cL_law 1135 = .ok (.iload 4, 2) := by decide +kernel
theorem dL_law_1137 : decode cL_law 1137 = .ok (.iconst 3, 1) := by decide +kernel
theorem dL_law_1138 : decode cL_law 1138 = .ok (.iadd, 1) := by decide +kernel
theorem dL_law_1139 : decode cL_law 1139 = .ok (.iaload, 1) := by decide +kernel
theorem dL_law_1140 : decode cL_law 1140 = .ok (.aload_n 0, 1) := by decide +kernel
theorem dL_law_1141 : decode cL_law 1141 = .ok (.iload 4, 2) := by decide +kernel
theorem dL_law_1143 : decode cL_law 1143 = .ok (.iconst 4, 1) := by decide +kernel
theorem dL_law_1144 : decode cL_law 1144 = .ok (.iadd, 1) := by decide +kernel
theorem dL_law_1145 : decode cL_law 1145 = .ok (.iaload, 1) := by decide +kernel
theorem dL_law_1146 : decode cL_law 1146 = .ok (.invokevirtual 160, 3) := by decide +kernel
theorem dL_law_1149 : decode cL_law 1149 = .ok (.istore 6, 2) := by decide +kernel
theorem dL_law_1151 : decode cL_law 1151 = .ok (.aload_n 2, 1) := by decide +kernel
theorem dL_law_1152 : decode cL_law 1152 = .ok (.invokevirtual 109, 3) := by decide +kernel
theorem dL_law_1155 : decode cL_law 1155 = .ok (.iload 5, 2) := by decide +kernel
theorem dL_law_1157 : decode cL_law 1157 = .ok (.if_icmp .eq 5, 3) := by decide +kernel
theorem dL_law_1160 : decode cL_law 1160 = .ok (.iconst 0, 1) := by decide +kernel
theorem dL_law_1161 : decode cL_law 1161 = .ok (.ireturn, 1) := by decide +kernel
theorem dL_law_1162 : decode cL_law 1162 = .ok (.iload 5, 2) := by decide +kernel
theorem dL_law_1164 : decode cL_law 1164 = .ok (.ifCond .ne 15, 3) := by decide +kernel
theorem dL_law_1167 : decode cL_law 1167 = .ok (.aload_n 3, 1) := by decide +kernel
theorem dL_law_1168 : decode cL_law 1168 = .ok (.iconst 0, 1) := by decide +kernel
theorem dL_law_1169 : decode cL_law 1169 = .ok (.laload, 1) := by decide +kernel
theorem dL_law_1170 : decode cL_law 1170 = .ok (.iload 6, 2) := by decide +kernel
theorem dL_law_1172 : decode cL_law 1172 = .ok (.i2l, 1) := by decide +kernel
theorem dL_law_1173 : decode cL_law 1173 = .ok (.lcmp, 1) := by decide +kernel
theorem dL_law_1174 : decode cL_law 1174 = .ok (.ifCond .eq 5, 3) := by decide +kernel
theorem dL_law_1177 : decode cL_law 1177 = .ok (.iconst 0, 1) := by decide +kernel
theorem dL_law_1178 : decode cL_law 1178 = .ok (.ireturn, 1) := by decide +kernel
theorem dL_law_1179 : decode cL_law 1179 = .ok (.goto 870, 3) := by decide +kernel
theorem dL_law_1182 : decode cL_law 1182 = .ok (.aload_n 1, 1) := by decide +kernel
theorem dL_law_1183 : decode cL_law 1183 = .ok (.aload_n 0, 1) := by decide +kernel
theorem dL_law_1184 : decode cL_law 1184 = .ok (.iload 4, 2) := by decide +kernel
theorem dL_law_1186 : decode cL_law 1186 = .ok (.iconst 1, 1) := by decide +kernel
theorem dL_law_1187 : decode cL_law 1187 = .ok (.iadd, 1) := by decide +kernel
theorem dL_law_1188 : decode cL_law 1188 = .ok (.iaload, 1) := by decide +kernel
theorem dL_law_1189 : decode cL_law 1189 = .ok (.aload_n 3, 1) := by decide +kernel
theorem dL_law_1190 : decode cL_law 1190 = .ok (.invokestatic 161, 3) := by decide +kernel
theorem dL_law_1193 : decode cL_law 1193 = .ok (.istore 5, 2) := by decide +kernel
theorem dL_law_1195 : decode cL_law 1195 = .ok (.aload_n 2, 1) := by decide +kernel
theorem dL_law_1196 : decode cL_law 1196 = .ok (.aload_n 0, 1) := by decide +kernel
theorem dL_law_1197 : decode cL_law 1197 = .ok (.iload 4, 2) := by decide +kernel
theorem dL_law_1199 : decode cL_law 1199 = .ok (.iconst 1, 1) := by decide +kernel
theorem dL_law_1200 : decode cL_law 1200 = .ok (.iadd, 1) := by decide +kernel
theorem dL_law_1201 : decode cL_law 1201 = .ok (.iaload, 1) := by decide +kernel
theorem dL_law_1202 : decode cL_law 1202 = .ok (.invokevirtual 163, 3) := by decide +kernel
theorem dL_law_1205 : decode cL_law 1205 = .ok (.istore 6, 2) := by decide +kernel
theorem dL_law_1207 : decode cL_law 1207 = .ok (.aload_n 2, 1) := by decide +kernel
theorem dL_law_1208 : decode cL_law 1208 = .ok (.invokevirtual 109, 3) := by decide +kernel
theorem dL_law_1211 : decode cL_law 1211 = .ok (.iload 5, 2) := by decide +kernel
theorem dL_law_1213 : decode cL_law 1213 = .ok (.if_icmp .eq 5, 3) := by decide +kernel
theorem dL_law_1216 : decode cL_law 1216 = .ok (.iconst 0, 1) := by decide +kernel
theorem dL_law_1217 : decode cL_law 1217 = .ok (.ireturn, 1) := by decide +kernel
theorem dL_law_1218 : decode cL_law 1218 = .ok (.iload 5, 2) := by decide +kernel
theorem dL_law_1220 : decode cL_law 1220 = .ok (.ifCond .ne 15, 3) := by decide +kernel
theorem dL_law_1223 : decode cL_law 1223 = .ok (.aload_n 3, 1) := by decide +kernel
theorem dL_law_1224 : decode cL_law 1224 = .ok (.iconst 0, 1) := by decide +kernel
theorem dL_law_1225 : decode cL_law 1225 = .ok (.laload, 1) := by decide +kernel
theorem dL_law_1226 : decode cL_law 1226 = .ok (.iload 6, 2) := by decide +kernel
theorem dL_law_1228 : decode cL_law 1228 = .ok (.i2l, 1) := by decide +kernel
theorem dL_law_1229 : decode cL_law 1229 = .ok (.lcmp, 1) := by decide +kernel
theorem dL_law_1230 : decode cL_law 1230 = .ok (.ifCond .eq 5, 3) := by decide +kernel
theorem dL_law_1233 : decode cL_law 1233 = .ok (.iconst 0, 1) := by decide +kernel
theorem dL_law_1234 : decode cL_law 1234 = .ok (.ireturn, 1) := by decide +kernel
theorem dL_law_1235 : decode cL_law 1235 = .ok (.goto 814, 3) := by decide +kernel
theorem dL_law_1238 : decode cL_law 1238 = .ok (.aload_n 1, 1) := by decide +kernel
theorem dL_law_1239 : decode cL_law 1239 = .ok (.aload_n 0, 1) := by decide +kernel
theorem dL_law_1240 : decode cL_law 1240 = .ok (.iload 4, 2) := by decide +kernel
theorem dL_law_1242 : decode cL_law 1242 = .ok (.iconst 1, 1) := by decide +kernel
theorem dL_law_1243 : decode cL_law 1243 = .ok (.iadd, 1) := by decide +kernel
theorem dL_law_1244 : decode cL_law 1244 = .ok (.iaload, 1) := by decide +kernel
theorem dL_law_1245 : decode cL_law 1245 = .ok (.aload_n 3, 1) := by decide +kernel
theorem dL_law_1246 : decode cL_law 1246 = .ok (.invokestatic 164, 3) := by decide +kernel
theorem dL_law_1249 : decode cL_law 1249 = .ok (.istore 5, 2) := by decide +kernel
theorem dL_law_1251 : decode cL_law 1251 = .ok (.aload_n 2, 1) := by decide +kernel
theorem dL_law_1252 : decode cL_law 1252 = .ok (.aload_n 0, 1) := by decide +kernel
theorem dL_law_1253 : decode cL_law 1253 = .ok (.iload 4, 2) := by decide +kernel
theorem dL_law_1255 : decode cL_law 1255 = .ok (.iconst 1, 1) := by decide +kernel
theorem dL_law_1256 : decode cL_law 1256 = .ok (.iadd, 1) := by decide +kernel
theorem dL_law_1257 : decode cL_law 1257 = .ok (.iaload, 1) := by decide +kernel
theorem dL_law_1258 : decode cL_law 1258 = .ok (.invokevirtual 166, 3) := by decide +kernel
theorem dL_law_1261 : decode cL_law 1261 = .ok (.istore 6, 2) := by decide +kernel
theorem dL_law_1263 : decode cL_law 1263 = .ok (.aload_n 2, 1) := by decide +kernel
theorem dL_law_1264 : decode cL_law 1264 = .ok (.invokevirtual 109, 3) := by decide +kernel
theorem dL_law_1267 : decode cL_law 1267 = .ok (.iload 5, 2) := by decide +kernel
theorem dL_law_1269 : decode cL_law 1269 = .ok (.if_icmp .eq 5, 3) := by decide +kernel
theorem dL_law_1272 : decode cL_law 1272 = .ok (.iconst 0, 1) := by decide +kernel
theorem dL_law_1273 : decode cL_law 1273 = .ok (.ireturn, 1) := by decide +kernel
theorem dL_law_1274 : decode cL_law 1274 = .ok (.iload 5, 2) := by decide +kernel
theorem dL_law_1276 : decode cL_law 1276 = .ok (.ifCond .ne 15, 3) := by decide +kernel
theorem dL_law_1279 : decode cL_law 1279 = .ok (.aload_n 3, 1) := by decide +kernel
theorem dL_law_1280 : decode cL_law 1280 = .ok (.iconst 0, 1) := by decide +kernel
theorem dL_law_1281 : decode cL_law 1281 = .ok (.laload, 1) := by decide +kernel
theorem dL_law_1282 : decode cL_law 1282 = .ok (.iload 6, 2) := by decide +kernel
theorem dL_law_1284 : decode cL_law 1284 = .ok (.i2l, 1) := by decide +kernel
theorem dL_law_1285 : decode cL_law 1285 = .ok (.lcmp, 1) := by decide +kernel
theorem dL_law_1286 : decode cL_law 1286 = .ok (.ifCond .eq 5, 3) := by decide +kernel
theorem dL_law_1289 : decode cL_law 1289 = .ok (.iconst 0, 1) := by decide +kernel
theorem dL_law_1290 : decode cL_law 1290 = .ok (.ireturn, 1) := by decide +kernel
theorem dL_law_1291 : decode cL_law 1291 = .ok (.goto 758, 3) := by decide +kernel
theorem dL_law_1294 : decode cL_law 1294 = .ok (.aload_n 1, 1) := by decide +kernel
theorem dL_law_1295 : decode cL_law 1295 = .ok (.invokevirtual 167, 3) := by decide +kernel
theorem dL_law_1298 : decode cL_law 1298 = .ok (.aload_n 2, 1) := by decide +kernel
theorem dL_law_1299 : decode cL_law 1299 = .ok (.invokevirtual 170, 3) := by decide +kernel
theorem dL_law_1302 : decode cL_law 1302 = .ok (.if_icmp .eq 747, 3) := by decide +kernel
theorem dL_law_1305 : decode cL_law 1305 = .ok (.iconst 0, 1) := by decide +kernel
theorem dL_law_1306 : decode cL_law 1306 = .ok (.ireturn, 1) := by decide +kernel
theorem dL_law_1307 : decode cL_law 1307 = .ok (.aload_n 1, 1) := by decide +kernel
theorem dL_law_1308 : decode cL_law 1308 = .ok (.aload_n 3, 1) := by decide +kernel
theorem dL_law_1309 : decode cL_law 1309 = .ok (.invokestatic 171, 3) := by decide +kernel
theorem dL_law_1312 : decode cL_law 1312 = .ok (.istore 5, 2) := by decide +kernel
theorem dL_law_1314 : decode cL_law 1314 = .ok (.aload_n 2, 1) := by decide +kernel
theorem dL_law_1315 : decode cL_law 1315 = .ok (.invokevirtual 173, 3) := by decide +kernel
theorem dL_law_1318 : decode cL_law 1318 = .ok (.istore 6, 2) := by decide +kernel
theorem dL_law_1320 : decode cL_law 1320 = .ok (.aload_n 2, 1) := by decide +kernel
theorem dL_law_1321 : decode cL_law 1321 = .ok (.invokevirtual 109, 3) := by decide +kernel
theorem dL_law_1324 : decode cL_law 1324 = .ok (.iload 5, 2) := by decide +kernel
theorem dL_law_1326 : decode cL_law 1326 = .ok (.if_icmp .eq 5, 3) := by decide +kernel
theorem dL_law_1329 : decode cL_law 1329 = .ok (.iconst 0, 1) := by decide +kernel
theorem dL_law_1330 : decode cL_law 1330 = .ok (.ireturn, 1) := by decide +kernel
theorem dL_law_1331 : decode cL_law 1331 = .ok (.iload 5, 2) := by decide +kernel
theorem dL_law_1333 : decode cL_law 1333 = .ok (.ifCond .ne 15, 3) := by decide +kernel
theorem dL_law_1336 : decode cL_law 1336 = .ok (.aload_n 3, 1) := by decide +kernel
theorem dL_law_1337 : decode cL_law 1337 = .ok (.iconst 0, 1) := by decide +kernel
theorem dL_law_1338 : decode cL_law 1338 = .ok (.laload, 1) := by decide +kernel
theorem dL_law_1339 : decode cL_law 1339 = .ok (.iload 6, 2) := by decide +kernel
theorem dL_law_1341 : decode cL_law 1341 = .ok (.i2l, 1) := by decide +kernel
theorem dL_law_1342 : decode cL_law 1342 = .ok (.lcmp, 1) := by decide +kernel
theorem dL_law_1343 : decode cL_law 1343 = .ok (.ifCond .eq 5, 3) := by decide +kernel
theorem dL_law_1346 : decode cL_law 1346 = .ok (.iconst 0, 1) := by decide +kernel
theorem dL_law_1347 : decode cL_law 1347 = .ok (.ireturn, 1) := by decide +kernel
theorem dL_law_1348 : decode cL_law 1348 = .ok (.goto 701, 3) := by decide +kernel
theorem dL_law_1351 : decode cL_law 1351 = .ok (.aload_n 1, 1) := by decide +kernel
theorem dL_law_1352 : decode cL_law 1352 = .ok (.aload_n 0, 1) := by decide +kernel
theorem dL_law_1353 : decode cL_law 1353 = .ok (.iload 4, 2) := by decide +kernel
theorem dL_law_1355 : decode cL_law 1355 = .ok (.iconst 1, 1) := by decide +kernel
theorem dL_law_1356 : decode cL_law 1356 = .ok (.iadd, 1) := by decide +kernel
theorem dL_law_1357 : decode cL_law 1357 = .ok (.iaload, 1) := by decide +kernel
theorem dL_law_1358 : decode cL_law 1358 = .ok (.aload_n 0, 1) := by decide +kernel
theorem dL_law_1359 : decode cL_law 1359 = .ok (.iload 4, 2) := by decide +kernel
theorem dL_law_1361 : decode cL_law 1361 = .ok (.iconst 2, 1) := by decide +kernel
theorem dL_law_1362 : decode cL_law 1362 = .ok (.iadd, 1) := by decide +kernel
theorem dL_law_1363 : decode cL_law 1363 = .ok (.iaload, 1) := by decide +kernel
theorem dL_law_1364 : decode cL_law 1364 = .ok (.aload_n 0, 1) := by decide +kernel
theorem dL_law_1365 : decode cL_law 1365 = .ok (.iload 4, 2) := by decide +kernel
theorem dL_law_1367 : decode cL_law 1367 = .ok (.iconst 3, 1) := by decide +kernel
theorem dL_law_1368 : decode cL_law 1368 = .ok (.iadd, 1) := by decide +kernel
theorem dL_law_1369 : decode cL_law 1369 = .ok (.iaload, 1) := by decide +kernel
theorem dL_law_1370 : decode cL_law 1370 = .ok (.i2l, 1) := by decide +kernel
theorem dL_law_1371 : decode cL_law 1371 = .ok (.bipush 32, 2) := by decide +kernel
theorem dL_law_1373 : decode cL_law 1373 = .ok (.lshl, 1) := by decide +kernel
theorem dL_law_1374 : decode cL_law 1374 = .ok (.aload_n 0, 1) := by decide +kernel
theorem dL_law_1375 : decode cL_law 1375 = .ok (.iload 4, 2) := by decide +kernel
theorem dL_law_1377 : decode cL_law 1377 = .ok (.iconst 4, 1) := by decide +kernel
theorem dL_law_1378 : decode cL_law 1378 = .ok (.iadd, 1) := by decide +kernel
theorem dL_law_1379 : decode cL_law 1379 = .ok (.iaload, 1) := by decide +kernel
theorem dL_law_1380 : decode cL_law 1380 = .ok (.i2l, 1) := by decide +kernel
theorem dL_law_1381 : decode cL_law 1381 = .ok (.ldc2_w 174, 3) := by decide +kernel
theorem dL_law_1384 : decode cL_law 1384 = .ok (.land, 1) := by decide +kernel
theorem dL_law_1385 : decode cL_law 1385 = .ok (.lor, 1) := by decide +kernel
theorem dL_law_1386 : decode cL_law 1386 = .ok (.aload_n 3, 1) := by decide +kernel
theorem dL_law_1387 : decode cL_law 1387 = .ok (.invokestatic 176, 3) := by decide +kernel
theorem dL_law_1390 : decode cL_law 1390 = .ok (.istore 5, 2) := by decide +kernel
theorem dL_law_1392 : decode cL_law 1392 = .ok (.aload_n 2, 1) := by decide +kernel
theorem dL_law_1393 : decode cL_law 1393 = .ok (.aload_n 0, 1) := by decide +kernel
theorem dL_law_1394 : decode cL_law 1394 = .ok (.iload 4, 2) := by decide +kernel
theorem dL_law_1396 : decode cL_law 1396 = .ok (.iconst 1, 1) := by decide +kernel
theorem dL_law_1397 : decode cL_law 1397 = .ok (.iadd, 1) := by decide +kernel
theorem dL_law_1398 : decode cL_law 1398 = .ok (.iaload, 1) := by decide +kernel
theorem dL_law_1399 : decode cL_law 1399 = .ok (.aload_n 0, 1) := by decide +kernel
theorem dL_law_1400 : decode cL_law 1400 = .ok (.iload 4, 2) := by decide +kernel
theorem dL_law_1402 : decode cL_law 1402 = .ok (.iconst 2, 1) := by decide +kernel
theorem dL_law_1403 : decode cL_law 1403 = .ok (.iadd, 1) := by decide +kernel
theorem dL_law_1404 : decode cL_law 1404 = .ok (.iaload, 1) := by decide +kernel
theorem dL_law_1405 : decode cL_law 1405 = .ok (.aload_n 0, 1) := by decide +kernel
theorem dL_law_1406 : decode cL_law 1406 = .ok (.iload 4, 2) := by decide +kernel
theorem dL_law_1408 : decode cL_law 1408 = .ok (.iconst 3, 1) := by decide +kernel
theorem dL_law_1409 : decode cL_law 1409 = .ok (.iadd, 1) := by decide +kernel
theorem dL_law_1410 : decode cL_law 1410 = .ok (.iaload, 1) := by decide +kernel
theorem dL_law_1411 : decode cL_law 1411 = .ok (.i2l, 1) := by decide +kernel
theorem dL_law_1412 : decode cL_law 1412 = .ok (.bipush 32, 2) := by decide +kernel
theorem dL_law_1414 : decode cL_law 1414 = .ok (.lshl, 1) := by decide +kernel
theorem dL_law_1415 : decode cL_law 1415 = .ok (.aload_n 0, 1) := by decide +kernel
theorem dL_law_1416 : decode cL_law 1416 = .ok (.iload 4, 2) := by decide +kernel
theorem dL_law_1418 : decode cL_law 1418 = .ok (.iconst 4, 1) := by decide +kernel
theorem dL_law_1419 : decode cL_law 1419 = .ok (.iadd, 1) := by decide +kernel
theorem dL_law_1420 : decode cL_law 1420 = .ok (.iaload, 1) := by decide +kernel
theorem dL_law_1421 : decode cL_law 1421 = .ok (.i2l, 1) := by decide +kernel
theorem dL_law_1422 : decode cL_law 1422 = .ok (.ldc2_w 174, 3) := by decide +kernel
theorem dL_law_1425 : decode cL_law 1425 = .ok (.land, 1) := by decide +kernel
theorem dL_law_1426 : decode cL_law 1426 = .ok (.lor, 1) := by decide +kernel
theorem dL_law_1427 : decode cL_law 1427 = .ok (.invokevirtual 179, 3) := by decide +kernel
theorem dL_law_1430 : decode cL_law 1430 = .ok (.istore 6, 2) := by decide +kernel
theorem dL_law_1432 : decode cL_law 1432 = .ok (.aload_n 2, 1) := by decide +kernel
theorem dL_law_1433 : decode cL_law 1433 = .ok (.invokevirtual 109, 3) := by decide +kernel
theorem dL_law_1436 : decode cL_law 1436 = .ok (.iload 5, 2) := by decide +kernel
theorem dL_law_1438 : decode cL_law 1438 = .ok (.if_icmp .eq 5, 3) := by decide +kernel
theorem dL_law_1441 : decode cL_law 1441 = .ok (.iconst 0, 1) := by decide +kernel
theorem dL_law_1442 : decode cL_law 1442 = .ok (.ireturn, 1) := by decide +kernel
theorem dL_law_1443 : decode cL_law 1443 = .ok (.iload 5, 2) := by decide +kernel
theorem dL_law_1445 : decode cL_law 1445 = .ok (.ifCond .ne 15, 3) := by decide +kernel
theorem dL_law_1448 : decode cL_law 1448 = .ok (.aload_n 3, 1) := by decide +kernel
theorem dL_law_1449 : decode cL_law 1449 = .ok (.iconst 0, 1) := by decide +kernel
theorem dL_law_1450 : decode cL_law 1450 = .ok (.laload, 1) := by decide +kernel
theorem dL_law_1451 : decode cL_law 1451 = .ok (.iload 6, 2) := by decide +kernel
theorem dL_law_1453 : decode cL_law 1453 = .ok (.i2l, 1) := by decide +kernel
theorem dL_law_1454 : decode cL_law 1454 = .ok (.lcmp, 1) := by decide +kernel
theorem dL_law_1455 : decode cL_law 1455 = .ok (.ifCond .eq 5, 3) := by decide +kernel
theorem dL_law_1458 : decode cL_law 1458 = .ok (.iconst 0, 1) := by decide +kernel
theorem dL_law_1459 : decode cL_law 1459 = .ok (.ireturn, 1) := by decide +kernel
theorem dL_law_1460 : decode cL_law 1460 = .ok (.goto 589, 3) := by decide +kernel
theorem dL_law_1463 : decode cL_law 1463 = .ok (.aload_n 1, 1) := by decide +kernel
theorem dL_law_1464 : decode cL_law 1464 = .ok (.invokevirtual 180, 3) := by decide +kernel
theorem dL_law_1467 : decode cL_law 1467 = .ok (.aload_n 2, 1) := by decide +kernel
theorem dL_law_1468 : decode cL_law 1468 = .ok (.invokevirtual 183, 3) := by decide +kernel
theorem dL_law_1471 : decode cL_law 1471 = .ok (.if_icmp .eq 578, 3) := by decide +kernel
theorem dL_law_1474 : decode cL_law 1474 = .ok (.iconst 0, 1) := by decide +kernel
theorem dL_law_1475 : decode cL_law 1475 = .ok (.ireturn, 1) := by decide +kernel
theorem dL_law_1476 : decode cL_law 1476 = .ok (.aload_n 1, 1) := by decide +kernel
theorem dL_law_1477 : decode cL_law 1477 = .ok (.aload_n 0, 1) := by decide +kernel
theorem dL_law_1478 : decode cL_law 1478 = .ok (.iload 4, 2) := by decide +kernel
theorem dL_law_1480 : decode cL_law 1480 = .ok (.iconst 1, 1) := by decide +kernel
theorem dL_law_1481 : decode cL_law 1481 = .ok (.iadd, 1) := by decide +kernel
theorem dL_law_1482 : decode cL_law 1482 = .ok (.iaload, 1) := by decide +kernel
theorem dL_law_1483 : decode cL_law 1483 = .ok (.aload_n 0, 1) := by decide +kernel
theorem dL_law_1484 : decode cL_law 1484 = .ok (.iload 4, 2) := by decide +kernel
theorem dL_law_1486 : decode cL_law 1486 = .ok (.iconst 2, 1) := by decide +kernel
theorem dL_law_1487 : decode cL_law 1487 = .ok (.iadd, 1) := by decide +kernel
theorem dL_law_1488 : decode cL_law 1488 = .ok (.iaload, 1) := by decide +kernel
theorem dL_law_1489 : decode cL_law 1489 = .ok (.aload_n 3, 1) := by decide +kernel
theorem dL_law_1490 : decode cL_law 1490 = .ok (.invokestatic 184, 3) := by decide +kernel
theorem dL_law_1493 : decode cL_law 1493 = .ok (.istore 5, 2) := by decide +kernel
theorem dL_law_1495 : decode cL_law 1495 = .ok (.aload_n 2, 1) := by decide +kernel
theorem dL_law_1496 : decode cL_law 1496 = .ok (.aload_n 0, 1) := by decide +kernel
theorem dL_law_1497 : decode cL_law 1497 = .ok (.iload 4, 2) := by decide +kernel
theorem dL_law_1499 : decode cL_law 1499 = .ok (.iconst 1, 1) := by decide +kernel
theorem dL_law_1500 : decode cL_law 1500 = .ok (.iadd, 1) := by decide +kernel
theorem dL_law_1501 : decode cL_law 1501 = .ok (.iaload, 1) := by decide +kernel
theorem dL_law_1502 : decode cL_law 1502 = .ok (.aload_n 0, 1) := by decide +kernel
theorem dL_law_1503 : decode cL_law 1503 = .ok (.iload 4, 2) := by decide +kernel
theorem dL_law_1505 : decode cL_law 1505 = .ok (.iconst 2, 1) := by decide +kernel
theorem dL_law_1506 : decode cL_law 1506 = .ok (.iadd, 1) := by decide +kernel
theorem dL_law_1507 : decode cL_law 1507 = .ok (.iaload, 1) := by decide +kernel
theorem dL_law_1508 : decode cL_law 1508 = .ok (.invokevirtual 186, 3) := by decide +kernel
theorem dL_law_1511 : decode cL_law 1511 = .ok (.istore 6, 2) := by decide +kernel
theorem dL_law_1513 : decode cL_law 1513 = .ok (.aload_n 2, 1) := by decide +kernel
theorem dL_law_1514 : decode cL_law 1514 = .ok (.invokevirtual 109, 3) := by decide +kernel
theorem dL_law_1517 : decode cL_law 1517 = .ok (.iload 5, 2) := by decide +kernel
theorem dL_law_1519 : decode cL_law 1519 = .ok (.if_icmp .eq 5, 3) := by decide +kernel
theorem dL_law_1522 : decode cL_law 1522 = .ok (.iconst 0, 1) := by decide +kernel
theorem dL_law_1523 : decode cL_law 1523 = .ok (.ireturn, 1) := by decide +kernel
theorem dL_law_1524 : decode cL_law 1524 = .ok (.iload 5, 2) := by decide +kernel
theorem dL_law_1526 : decode cL_law 1526 = .ok (.ifCond .ne 15, 3) := by decide +kernel
theorem dL_law_1529 : decode cL_law 1529 = .ok (.aload_n 3, 1) := by decide +kernel
theorem dL_law_1530 : decode cL_law 1530 = .ok (.iconst 0, 1) := by decide +kernel
theorem dL_law_1531 : decode cL_law 1531 = .ok (.laload, 1) := by decide +kernel
theorem dL_law_1532 : decode cL_law 1532 = .ok (.iload 6, 2) := by decide +kernel
theorem dL_law_1534 : decode cL_law 1534 = .ok (.i2l, 1) := by decide +kernel
theorem dL_law_1535 : decode cL_law 1535 = .ok (.lcmp, 1) := by decide +kernel
theorem dL_law_1536 : decode cL_law 1536 = .ok (.ifCond .eq 5, 3) := by decide +kernel
theorem dL_law_1539 : decode cL_law 1539 = .ok (.iconst 0, 1) := by decide +kernel
theorem dL_law_1540 : decode cL_law 1540 = .ok (.ireturn, 1) := by decide +kernel
theorem dL_law_1541 : decode cL_law 1541 = .ok (.goto 508, 3) := by decide +kernel
theorem dL_law_1544 : decode cL_law 1544 = .ok (.aload_n 1, 1) := by decide +kernel
theorem dL_law_1545 : decode cL_law 1545 = .ok (.aload_n 0, 1) := by decide +kernel
theorem dL_law_1546 : decode cL_law 1546 = .ok (.iload 4, 2) := by decide +kernel
theorem dL_law_1548 : decode cL_law 1548 = .ok (.iconst 1, 1) := by decide +kernel
theorem dL_law_1549 : decode cL_law 1549 = .ok (.iadd, 1) := by decide +kernel
theorem dL_law_1550 : decode cL_law 1550 = .ok (.iaload, 1) := by decide +kernel
theorem dL_law_1551 : decode cL_law 1551 = .ok (.aload_n 3, 1) := by decide +kernel
theorem dL_law_1552 : decode cL_law 1552 = .ok (.invokestatic 187, 3) := by decide +kernel
theorem dL_law_1555 : decode cL_law 1555 = .ok (.istore 5, 2) := by decide +kernel
theorem dL_law_1557 : decode cL_law 1557 = .ok (.aload_n 2, 1) := by decide +kernel
theorem dL_law_1558 : decode cL_law 1558 = .ok (.aload_n 0, 1) := by decide +kernel
theorem dL_law_1559 : decode cL_law 1559 = .ok (.iload 4, 2) := by decide +kernel
theorem dL_law_1561 : decode cL_law 1561 = .ok (.iconst 1, 1) := by decide +kernel
theorem dL_law_1562 : decode cL_law 1562 = .ok (.iadd, 1) := by decide +kernel
theorem dL_law_1563 : decode cL_law 1563 = .ok (.iaload, 1) := by decide +kernel
theorem dL_law_1564 : decode cL_law 1564 = .ok (.invokevirtual 189, 3) := by decide +kernel
theorem dL_law_1567 : decode cL_law 1567 = .ok (.istore 6, 2) := by decide +kernel
theorem dL_law_1569 : decode cL_law 1569 = .ok (.aload_n 2, 1) := by decide +kernel
theorem dL_law_1570 : decode cL_law 1570 = .ok (.invokevirtual 109, 3) := by decide +kernel
theorem dL_law_1573 : decode cL_law 1573 = .ok (.iload 5, 2) := by decide +kernel
theorem dL_law_1575 : decode cL_law 1575 = .ok (.if_icmp .eq 5, 3) := by decide +kernel
theorem dL_law_1578 : decode cL_law 1578 = .ok (.iconst 0, 1) := by decide +kernel
theorem dL_law_1579 : decode cL_law 1579 = .ok (.ireturn, 1) := by decide +kernel
theorem dL_law_1580 : decode cL_law 1580 = .ok (.iload 5, 2) := by decide +kernel
theorem dL_law_1582 : decode cL_law 1582 = .ok (.ifCond .ne 15, 3) := by decide +kernel
theorem dL_law_1585 : decode cL_law 1585 = .ok (.aload_n 3, 1) := by decide +kernel
theorem dL_law_1586 : decode cL_law 1586 = .ok (.iconst 0, 1) := by decide +kernel
theorem dL_law_1587 : decode cL_law 1587 = .ok (.laload, 1) := by decide +kernel
theorem dL_law_1588 : decode cL_law 1588 = .ok (.iload 6, 2) := by decide +kernel
theorem dL_law_1590 : decode cL_law 1590 = .ok (.i2l, 1) := by decide +kernel
theorem dL_law_1591 : decode cL_law 1591 = .ok (.lcmp, 1) := by decide +kernel
theorem dL_law_1592 : decode cL_law 1592 = .ok (.ifCond .eq 5, 3) := by decide +kernel
theorem dL_law_1595 : decode cL_law 1595 = .ok (.iconst 0, 1) := by decide +kernel
theorem dL_law_1596 : decode cL_law 1596 = .ok (.ireturn, 1) := by decide +kernel
theorem dL_law_1597 : decode cL_law 1597 = .ok (.goto 452, 3) := by decide +kernel
theorem dL_law_1600 : decode cL_law 1600 = .ok (.aload_n 1, 1) := by decide +kernel
theorem dL_law_1601 : decode cL_law 1601 = .ok (.invokevirtual 190, 3) := by decide +kernel
theorem dL_law_1604 : decode cL_law 1604 = .ok (.aload_n 2, 1) := by decide +kernel
theorem dL_law_1605 : decode cL_law 1605 = .ok (.invokevirtual 193, 3) := by decide +kernel
theorem dL_law_1608 : decode cL_law 1608 = .ok (.if_icmp .eq 441, 3) := by decide +kernel
theorem dL_law_1611 : decode cL_law 1611 = .ok (.iconst 0, 1) := by decide +kernel
theorem dL_law_1612 : decode cL_law 1612 = .ok (.ireturn, 1) := by decide +kernel
theorem dL_law_1613 : decode cL_law 1613 = .ok (.aload_n 1, 1) := by decide +kernel
theorem dL_law_1614 : decode cL_law 1614 = .ok (.aload_n 0, 1) := by decide +kernel
theorem dL_law_1615 : decode cL_law 1615 = .ok (.iload 4, 2) := by decide +kernel
theorem dL_law_1617 : decode cL_law 1617 = .ok (.iconst 1, 1) := by decide +kernel
theorem dL_law_1618 : decode cL_law 1618 = .ok (.iadd, 1) := by decide +kernel
theorem dL_law_1619 : decode cL_law 1619 = .ok (.iaload, 1) := by decide +kernel
theorem dL_law_1620 : decode cL_law 1620 = .ok (.aload_n 3, 1) := by decide +kernel
theorem dL_law_1621 : decode cL_law 1621 = .ok (.invokestatic 194, 3) := by decide +kernel
theorem dL_law_1624 : decode cL_law 1624 = .ok (.istore 5, 2) := by decide +kernel
theorem dL_law_1626 : decode cL_law 1626 = .ok (.aload_n 2, 1) := by decide +kernel
theorem dL_law_1627 : decode cL_law 1627 = .ok (.aload_n 0, 1) := by decide +kernel
theorem dL_law_1628 : decode cL_law 1628 = .ok (.iload 4, 2) := by decide +kernel
theorem dL_law_1630 : decode cL_law 1630 = .ok (.iconst 1, 1) := by decide +kernel
theorem dL_law_1631 : decode cL_law 1631 = .ok (.iadd, 1) := by decide +kernel
theorem dL_law_1632 : decode cL_law 1632 = .ok (.iaload, 1) := by decide +kernel
theorem dL_law_1633 : decode cL_law 1633 = .ok (.invokevirtual 196, 3) := by decide +kernel
theorem dL_law_1636 : decode cL_law 1636 = .ok (.istore 6, 2) := by decide +kernel
theorem dL_law_1638 : decode cL_law 1638 = .ok (.aload_n 2, 1) := by decide +kernel
theorem dL_law_1639 : decode cL_law 1639 = .ok (.invokevirtual 109, 3) := by decide +kernel
theorem dL_law_1642 : decode cL_law 1642 = .ok (.iload 5, 2) := by decide +kernel
theorem dL_law_1644 : decode cL_law 1644 = .ok (.if_icmp .eq 5, 3) := by decide +kernel
theorem dL_law_1647 : decode cL_law 1647 = .ok (.iconst 0, 1) := by decide +kernel
theorem dL_law_1648 : decode cL_law 1648 = .ok (.ireturn, 1) := by decide +kernel
theorem dL_law_1649 : decode cL_law 1649 = .ok (.iload 5, 2) := by decide +kernel
theorem dL_law_1651 : decode cL_law 1651 = .ok (.ifCond .ne 15, 3) := by decide +kernel
theorem dL_law_1654 : decode cL_law 1654 = .ok (.aload_n 3, 1) := by decide +kernel
theorem dL_law_1655 : decode cL_law 1655 = .ok (.iconst 0, 1) := by decide +kernel
theorem dL_law_1656 : decode cL_law 1656 = .ok (.laload, 1) := by decide +kernel
theorem dL_law_1657 : decode cL_law 1657 = .ok (.iload 6, 2) := by decide +kernel
theorem dL_law_1659 : decode cL_law 1659 = .ok (.i2l, 1) := by decide +kernel
theorem dL_law_1660 : decode cL_law 1660 = .ok (.lcmp, 1) := by decide +kernel
theorem dL_law_1661 : decode cL_law 1661 = .ok (.ifCond .eq 5, 3) := by decide +kernel
theorem dL_law_1664 : decode cL_law 1664 = .ok (.iconst 0, 1) := by decide +kernel
theorem dL_law_1665 : decode cL_law 1665 = .ok (.ireturn, 1) := by decide +kernel
theorem dL_law_1666 : decode cL_law 1666 = .ok (.goto 383, 3) := by decide +kernel
theorem dL_law_1669 : decode cL_law 1669 = .ok (.aload_n 1, 1) := by decide +kernel
theorem dL_law_1670 : decode cL_law 1670 = .ok (.aload_n 0, 1) := by decide +kernel
theorem dL_law_1671 : decode cL_law 1671 = .ok (.iload 4, 2) := by decide +kernel
theorem dL_law_1673 : decode cL_law 1673 = .ok (.iconst 1, 1) := by decide +kernel
theorem dL_law_1674 : decode cL_law 1674 = .ok (.iadd, 1) := by decide +kernel
theorem dL_law_1675 : decode cL_law 1675 = .ok (.iaload, 1) := by decide +kernel
theorem dL_law_1676 : decode cL_law 1676 = .ok (.aload_n 0, 1) := by decide +kernel
theorem dL_law_1677 : decode cL_law 1677 = .ok (.iload 4, 2) := by decide +kernel
theorem dL_law_1679 : decode cL_law 1679 = .ok (.iconst 2, 1) := by decide +kernel
theorem dL_law_1680 : decode cL_law 1680 = .ok (.iadd, 1) := by decide +kernel
theorem dL_law_1681 : decode cL_law 1681 = .ok (.iaload, 1) := by decide +kernel
theorem dL_law_1682 : decode cL_law 1682 = .ok (.aload_n 3, 1) := by decide +kernel
theorem dL_law_1683 : decode cL_law 1683 = .ok (.invokestatic 197, 3) := by decide +kernel
theorem dL_law_1686 : decode cL_law 1686 = .ok (.istore 5, 2) := by decide +kernel
theorem dL_law_1688 : decode cL_law 1688 = .ok (.aload_n 2, 1) := by decide +kernel
theorem dL_law_1689 : decode cL_law 1689 = .ok (.aload_n 0, 1) := by decide +kernel
theorem dL_law_1690 : decode cL_law 1690 = .ok (.iload 4, 2) := by decide +kernel
theorem dL_law_1692 : decode cL_law 1692 = .ok (.iconst 1, 1) := by decide +kernel
theorem dL_law_1693 : decode cL_law 1693 = .ok (.iadd, 1) := by decide +kernel
theorem dL_law_1694 : decode cL_law 1694 = .ok (.iaload, 1) := by decide +kernel
theorem dL_law_1695 : decode cL_law 1695 = .ok (.aload_n 0, 1) := by decide +kernel
theorem dL_law_1696 : decode cL_law 1696 = .ok (.iload 4, 2) := by decide +kernel
theorem dL_law_1698 : decode cL_law 1698 = .ok (.iconst 2, 1) := by decide +kernel
theorem dL_law_1699 : decode cL_law 1699 = .ok (.iadd, 1) := by decide +kernel
theorem dL_law_1700 : decode cL_law 1700 = .ok (.iaload, 1) := by decide +kernel
theorem dL_law_1701 : decode cL_law 1701 = .ok (.invokevirtual 199, 3) := by decide +kernel
theorem dL_law_1704 : decode cL_law 1704 = .ok (.istore 6, 2) := by decide +kernel
theorem dL_law_1706 : decode cL_law 1706 = .ok (.aload_n 2, 1) := by decide +kernel
theorem dL_law_1707 : decode cL_law 1707 = .ok (.invokevirtual 109, 3) := by decide +kernel
theorem dL_law_1710 : decode cL_law 1710 = .ok (.iload 5, 2) := by decide +kernel
theorem dL_law_1712 : decode cL_law 1712 = .ok (.if_icmp .eq 5, 3) := by decide +kernel
theorem dL_law_1715 : decode cL_law 1715 = .ok (.iconst 0, 1) := by decide +kernel
theorem dL_law_1716 : decode cL_law 1716 = .ok (.ireturn, 1) := by decide +kernel
theorem dL_law_1717 : decode cL_law 1717 = .ok (.iload 5, 2) := by decide +kernel
theorem dL_law_1719 : decode cL_law 1719 = .ok (.ifCond .ne 15, 3) := by decide +kernel
theorem dL_law_1722 : decode cL_law 1722 = .ok (.aload_n 3, 1) := by decide +kernel
theorem dL_law_1723 : decode cL_law 1723 = .ok (.iconst 0, 1) := by decide +kernel
theorem dL_law_1724 : decode cL_law 1724 = .ok (.laload, 1) := by decide +kernel
theorem dL_law_1725 : decode cL_law 1725 = .ok (.iload 6, 2) := by decide +kernel
theorem dL_law_1727 : decode cL_law 1727 = .ok (.i2l, 1) := by decide +kernel
theorem dL_law_1728 : decode cL_law 1728 = .ok (.lcmp, 1) := by decide +kernel
theorem dL_law_1729 : decode cL_law 1729 = .ok (.ifCond .eq 5, 3) := by decide +kernel
theorem dL_law_1732 : decode cL_law 1732 = .ok (.iconst 0, 1) := by decide +kernel
theorem dL_law_1733 : decode cL_law 1733 = .ok (.ireturn, 1) := by decide +kernel
theorem dL_law_1734 : decode cL_law 1734 = .ok (.goto 315, 3) := by decide +kernel
theorem dL_law_1737 : decode cL_law 1737 = .ok (.aload_n 1, 1) := by decide +kernel
theorem dL_law_1738 : decode cL_law 1738 = .ok (.aload_n 0, 1) := by decide +kernel
theorem dL_law_1739 : decode cL_law 1739 = .ok (.iload 4, 2) := by decide +kernel
theorem dL_law_1741 : decode cL_law 1741 = .ok (.iconst 1, 1) := by decide +kernel
theorem dL_law_1742 : decode cL_law 1742 = .ok (.iadd, 1) := by decide +kernel
theorem dL_law_1743 : decode cL_law 1743 = .ok (.iaload, 1) := by decide +kernel
theorem dL_law_1744 : decode cL_law 1744 = .ok (.aload_n 0, 1) := by decide +kernel
theorem dL_law_1745 : decode cL_law 1745 = .ok (.iload 4, 2) := by decide +kernel
theorem dL_law_1747 : decode cL_law 1747 = .ok (.iconst 2, 1) := by decide +kernel
theorem dL_law_1748 : decode cL_law 1748 = .ok (.iadd, 1) := by decide +kernel
theorem dL_law_1749 : decode cL_law 1749 = .ok (.iaload, 1) := by decide +kernel
theorem dL_law_1750 : decode cL_law 1750 = .ok (.i2l, 1) := by decide +kernel
theorem dL_law_1751 : decode cL_law 1751 = .ok (.bipush 32, 2) := by decide +kernel
theorem dL_law_1753 : decode cL_law 1753 = .ok (.lshl, 1) := by decide +kernel
theorem dL_law_1754 : decode cL_law 1754 = .ok (.aload_n 0, 1) := by decide +kernel
theorem dL_law_1755 : decode cL_law 1755 = .ok (.iload 4, 2) := by decide +kernel
theorem dL_law_1757 : decode cL_law 1757 = .ok (.iconst 3, 1) := by decide +kernel
theorem dL_law_1758 : decode cL_law 1758 = .ok (.iadd, 1) := by decide +kernel
theorem dL_law_1759 : decode cL_law 1759 = .ok (.iaload, 1) := by decide +kernel
theorem dL_law_1760 : decode cL_law 1760 = .ok (.i2l, 1) := by decide +kernel
theorem dL_law_1761 : decode cL_law 1761 = .ok (.ldc2_w 174, 3) := by decide +kernel
theorem dL_law_1764 : decode cL_law 1764 = .ok (.land, 1) := by decide +kernel
theorem dL_law_1765 : decode cL_law 1765 = .ok (.lor, 1) := by decide +kernel
theorem dL_law_1766 : decode cL_law 1766 = .ok (.aload_n 3, 1) := by decide +kernel
theorem dL_law_1767 : decode cL_law 1767 = .ok (.invokestatic 200, 3) := by decide +kernel
theorem dL_law_1770 : decode cL_law 1770 = .ok (.istore 5, 2) := by decide +kernel
theorem dL_law_1772 : decode cL_law 1772 = .ok (.aload_n 2, 1) := by decide +kernel
theorem dL_law_1773 : decode cL_law 1773 = .ok (.aload_n 0, 1) := by decide +kernel
theorem dL_law_1774 : decode cL_law 1774 = .ok (.iload 4, 2) := by decide +kernel
theorem dL_law_1776 : decode cL_law 1776 = .ok (.iconst 1, 1) := by decide +kernel
theorem dL_law_1777 : decode cL_law 1777 = .ok (.iadd, 1) := by decide +kernel
theorem dL_law_1778 : decode cL_law 1778 = .ok (.iaload, 1) := by decide +kernel
theorem dL_law_1779 : decode cL_law 1779 = .ok (.aload_n 0, 1) := by decide +kernel
theorem dL_law_1780 : decode cL_law 1780 = .ok (.iload 4, 2) := by decide +kernel
theorem dL_law_1782 : decode cL_law 1782 = .ok (.iconst 2, 1) := by decide +kernel
theorem dL_law_1783 : decode cL_law 1783 = .ok (.iadd, 1) := by decide +kernel
theorem dL_law_1784 : decode cL_law 1784 = .ok (.iaload, 1) := by decide +kernel
theorem dL_law_1785 : decode cL_law 1785 = .ok (.i2l, 1) := by decide +kernel
theorem dL_law_1786 : decode cL_law 1786 = .ok (.bipush 32, 2) := by decide +kernel
theorem dL_law_1788 : decode cL_law 1788 = .ok (.lshl, 1) := by decide +kernel
theorem dL_law_1789 : decode cL_law 1789 = .ok (.aload_n 0, 1) := by decide +kernel
theorem dL_law_1790 : decode cL_law 1790 = .ok (.iload 4, 2) := by decide +kernel
theorem dL_law_1792 : decode cL_law 1792 = .ok (.iconst 3, 1) := by decide +kernel
theorem dL_law_1793 : decode cL_law 1793 = .ok (.iadd, 1) := by decide +kernel
theorem dL_law_1794 : decode cL_law 1794 = .ok (.iaload, 1) := by decide +kernel
theorem dL_law_1795 : decode cL_law 1795 = .ok (.i2l, 1) := by decide +kernel
theorem dL_law_1796 : decode cL_law 1796 = .ok (.ldc2_w 174, 3) := by decide +kernel
theorem dL_law_1799 : decode cL_law 1799 = .ok (.land, 1) := by decide +kernel
theorem dL_law_1800 : decode cL_law 1800 = .ok (.lor, 1) := by decide +kernel
theorem dL_law_1801 : decode cL_law 1801 = .ok (.invokevirtual 203, 3) := by decide +kernel
theorem dL_law_1804 : decode cL_law 1804 = .ok (.istore 6, 2) := by decide +kernel
theorem dL_law_1806 : decode cL_law 1806 = .ok (.aload_n 2, 1) := by decide +kernel
theorem dL_law_1807 : decode cL_law 1807 = .ok (.invokevirtual 109, 3) := by decide +kernel
theorem dL_law_1810 : decode cL_law 1810 = .ok (.iload 5, 2) := by decide +kernel
theorem dL_law_1812 : decode cL_law 1812 = .ok (.if_icmp .eq 5, 3) := by decide +kernel
theorem dL_law_1815 : decode cL_law 1815 = .ok (.iconst 0, 1) := by decide +kernel
theorem dL_law_1816 : decode cL_law 1816 = .ok (.ireturn, 1) := by decide +kernel
theorem dL_law_1817 : decode cL_law 1817 = .ok (.iload 5, 2) := by decide +kernel
theorem dL_law_1819 : decode cL_law 1819 = .ok (.ifCond .ne 15, 3) := by decide +kernel
theorem dL_law_1822 : decode cL_law 1822 = .ok (.aload_n 3, 1) := by decide +kernel
theorem dL_law_1823 : decode cL_law 1823 = .ok (.iconst 0, 1) := by decide +kernel
theorem dL_law_1824 : decode cL_law 1824 = .ok (.laload, 1) := by decide +kernel
theorem dL_law_1825 : decode cL_law 1825 = .ok (.iload 6, 2) := by decide +kernel
theorem dL_law_1827 : decode cL_law 1827 = .ok (.i2l, 1) := by decide +kernel
theorem dL_law_1828 : decode cL_law 1828 = .ok (.lcmp, 1) := by decide +kernel
theorem dL_law_1829 : decode cL_law 1829 = .ok (.ifCond .eq 5, 3) := by decide +kernel
theorem dL_law_1832 : decode cL_law 1832 = .ok (.iconst 0, 1) := by decide +kernel
theorem dL_law_1833 : decode cL_law 1833 = .ok (.ireturn, 1) := by decide +kernel
theorem dL_law_1834 : decode cL_law 1834 = .ok (.goto 215, 3) := by decide +kernel
theorem dL_law_1837 : decode cL_law 1837 = .ok (.aload_n 1, 1) := by decide +kernel
theorem dL_law_1838 : decode cL_law 1838 = .ok (.aload_n 0, 1) := by decide +kernel
theorem dL_law_1839 : decode cL_law 1839 = .ok (.iload 4, 2) := by decide +kernel
theorem dL_law_1841 : decode cL_law 1841 = .ok (.iconst 1, 1) := by decide +kernel
theorem dL_law_1842 : decode cL_law 1842 = .ok (.iadd, 1) := by decide +kernel
theorem dL_law_1843 : decode cL_law 1843 = .ok (.iaload, 1) := by decide +kernel
theorem dL_law_1844 : decode cL_law 1844 = .ok (.i2l, 1) := by decide +kernel
theorem dL_law_1845 : decode cL_law 1845 = .ok (.bipush 32, 2) := by decide +kernel
theorem dL_law_1847 : decode cL_law 1847 = .ok (.lshl, 1) := by decide +kernel
theorem dL_law_1848 : decode cL_law 1848 = .ok (.aload_n 0, 1) := by decide +kernel
theorem dL_law_1849 : decode cL_law 1849 = .ok (.iload 4, 2) := by decide +kernel
theorem dL_law_1851 : decode cL_law 1851 = .ok (.iconst 2, 1) := by decide +kernel
theorem dL_law_1852 : decode cL_law 1852 = .ok (.iadd, 1) := by decide +kernel
theorem dL_law_1853 : decode cL_law 1853 = .ok (.iaload, 1) := by decide +kernel
theorem dL_law_1854 : decode cL_law 1854 = .ok (.i2l, 1) := by decide +kernel
theorem dL_law_1855 : decode cL_law 1855 = .ok (.ldc2_w 174, 3) := by decide +kernel
theorem dL_law_1858 : decode cL_law 1858 = .ok (.land, 1) := by decide +kernel
theorem dL_law_1859 : decode cL_law 1859 = .ok (.lor, 1) := by decide +kernel
theorem dL_law_1860 : decode cL_law 1860 = .ok (.aload_n 0, 1) := by decide +kernel
theorem dL_law_1861 : decode cL_law 1861 = .ok (.iload 4, 2) := by decide +kernel
theorem dL_law_1863 : decode cL_law 1863 = .ok (.iconst 3, 1) := by decide +kernel
theorem dL_law_1864 : decode cL_law 1864 = .ok (.iadd, 1) := by decide +kernel
theorem dL_law_1865 : decode cL_law 1865 = .ok (.iaload, 1) := by decide +kernel
theorem dL_law_1866 : decode cL_law 1866 = .ok (.aload_n 3, 1) := by decide +kernel
theorem dL_law_1867 : decode cL_law 1867 = .ok (.invokestatic 204, 3) := by decide +kernel
theorem dL_law_1870 : decode cL_law 1870 = .ok (.istore 5, 2) := by decide +kernel
theorem dL_law_1872 : decode cL_law 1872 = .ok (.aload_n 2, 1) := by decide +kernel
theorem dL_law_1873 : decode cL_law 1873 = .ok (.aload_n 0, 1) := by decide +kernel
theorem dL_law_1874 : decode cL_law 1874 = .ok (.iload 4, 2) := by decide +kernel
theorem dL_law_1876 : decode cL_law 1876 = .ok (.iconst 1, 1) := by decide +kernel
theorem dL_law_1877 : decode cL_law 1877 = .ok (.iadd, 1) := by decide +kernel
theorem dL_law_1878 : decode cL_law 1878 = .ok (.iaload, 1) := by decide +kernel
theorem dL_law_1879 : decode cL_law 1879 = .ok (.i2l, 1) := by decide +kernel
theorem dL_law_1880 : decode cL_law 1880 = .ok (.bipush 32, 2) := by decide +kernel
theorem dL_law_1882 : decode cL_law 1882 = .ok (.lshl, 1) := by decide +kernel
theorem dL_law_1883 : decode cL_law 1883 = .ok (.aload_n 0, 1) := by decide +kernel
theorem dL_law_1884 : decode cL_law 1884 = .ok (.iload 4, 2) := by decide +kernel
theorem dL_law_1886 : decode cL_law 1886 = .ok (.iconst 2, 1) := by decide +kernel
theorem dL_law_1887 : decode cL_law 1887 = .ok (.iadd, 1) := by decide +kernel
theorem dL_law_1888 : decode cL_law 1888 = .ok (.iaload, 1) := by decide +kernel
theorem dL_law_1889 : decode cL_law 1889 = .ok (.i2l, 1) := by decide +kernel
theorem dL_law_1890 : decode cL_law 1890 = .ok (.ldc2_w 174, 3) := by decide +kernel
theorem dL_law_1893 : decode cL_law 1893 = .ok (.land, 1) := by decide +kernel
theorem dL_law_1894 : decode cL_law 1894 = .ok (.lor, 1) := by decide +kernel
theorem dL_law_1895 : decode cL_law 1895 = .ok (.aload_n 0, 1) := by decide +kernel
theorem dL_law_1896 : decode cL_law 1896 = .ok (.iload 4, 2) := by decide +kernel
theorem dL_law_1898 : decode cL_law 1898 = .ok (.iconst 3, 1) := by decide +kernel
theorem dL_law_1899 : decode cL_law 1899 = .ok (.iadd, 1) := by decide +kernel
theorem dL_law_1900 : decode cL_law 1900 = .ok (.iaload, 1) := by decide +kernel
theorem dL_law_1901 : decode cL_law 1901 = .ok (.invokevirtual 207, 3) := by decide +kernel
theorem dL_law_1904 : decode cL_law 1904 = .ok (.istore 6, 2) := by decide +kernel
theorem dL_law_1906 : decode cL_law 1906 = .ok (.aload_n 2, 1) := by decide +kernel
theorem dL_law_1907 : decode cL_law 1907 = .ok (.invokevirtual 109, 3) := by decide +kernel
theorem dL_law_1910 : decode cL_law 1910 = .ok (.iload 5, 2) := by decide +kernel
theorem dL_law_1912 : decode cL_law 1912 = .ok (.if_icmp .eq 5, 3) := by decide +kernel
theorem dL_law_1915 : decode cL_law 1915 = .ok (.iconst 0, 1) := by decide +kernel
theorem dL_law_1916 : decode cL_law 1916 = .ok (.ireturn, 1) := by decide +kernel
theorem dL_law_1917 : decode cL_law 1917 = .ok (.iload 5, 2) := by decide +kernel
theorem dL_law_1919 : decode cL_law 1919 = .ok (.ifCond .ne 15, 3) := by decide +kernel
theorem dL_law_1922 : decode cL_law 1922 = .ok (.aload_n 3, 1) := by decide +kernel
theorem dL_law_1923 : decode cL_law 1923 = .ok (.iconst 0, 1) := by decide +kernel
theorem dL_law_1924 : decode cL_law 1924 = .ok (.laload, 1) := by decide +kernel
theorem dL_law_1925 : decode cL_law 1925 = .ok (.iload 6, 2) := by decide +kernel
theorem dL_law_1927 : decode cL_law 1927 = .ok (.i2l, 1) := by decide +kernel
theorem dL_law_1928 : decode cL_law 1928 = .ok (.lcmp, 1) := by decide +kernel
theorem dL_law_1929 : decode cL_law 1929 = .ok (.ifCond .eq 5, 3) := by decide +kernel
theorem dL_law_1932 : decode cL_law 1932 = .ok (.iconst 0, 1) := by decide +kernel
theorem dL_law_1933 : decode cL_law 1933 = .ok (.ireturn, 1) := by decide +kernel
theorem dL_law_1934 : decode cL_law 1934 = .ok (.goto 115, 3) := by decide +kernel
theorem dL_law_1937 : decode cL_law 1937 = .ok (.aload_n 1, 1) := by decide +kernel
theorem dL_law_1938 : decode cL_law 1938 = .ok (.aload_n 0, 1) := by decide +kernel
theorem dL_law_1939 : decode cL_law 1939 = .ok (.iload 4, 2) := by decide +kernel
theorem dL_law_1941 : decode cL_law 1941 = .ok (.iconst 1, 1) := by decide +kernel
theorem dL_law_1942 : decode cL_law 1942 = .ok (.iadd, 1) := by decide +kernel
theorem dL_law_1943 : decode cL_law 1943 = .ok (.iaload, 1) := by decide +kernel
theorem dL_law_1944 : decode cL_law 1944 = .ok (.aload_n 3, 1) := by decide +kernel
theorem dL_law_1945 : decode cL_law 1945 = .ok (.invokestatic 208, 3) := by decide +kernel
theorem dL_law_1948 : decode cL_law 1948 = .ok (.istore 5, 2) := by decide +kernel
theorem dL_law_1950 : decode cL_law 1950 = .ok (.aload_n 2, 1) := by decide +kernel
theorem dL_law_1951 : decode cL_law 1951 = .ok (.aload_n 0, 1) := by decide +kernel
theorem dL_law_1952 : decode cL_law 1952 = .ok (.iload 4, 2) := by decide +kernel
theorem dL_law_1954 : decode cL_law 1954 = .ok (.iconst 1, 1) := by decide +kernel
theorem dL_law_1955 : decode cL_law 1955 = .ok (.iadd, 1) := by decide +kernel
theorem dL_law_1956 : decode cL_law 1956 = .ok (.iaload, 1) := by decide +kernel
theorem dL_law_1957 : decode cL_law 1957 = .ok (.invokevirtual 210, 3) := by decide +kernel
theorem dL_law_1960 : decode cL_law 1960 = .ok (.istore 6, 2) := by decide +kernel
theorem dL_law_1962 : decode cL_law 1962 = .ok (.aload_n 2, 1) := by decide +kernel
theorem dL_law_1963 : decode cL_law 1963 = .ok (.invokevirtual 109, 3) := by decide +kernel
theorem dL_law_1966 : decode cL_law 1966 = .ok (.iload 5, 2) := by decide +kernel
theorem dL_law_1968 : decode cL_law 1968 = .ok (.if_icmp .eq 5, 3) := by decide +kernel
theorem dL_law_1971 : decode cL_law 1971 = .ok (.iconst 0, 1) := by decide +kernel
theorem dL_law_1972 : decode cL_law 1972 = .ok (.ireturn, 1) := by decide +kernel
theorem dL_law_1973 : decode cL_law 1973 = .ok (.iload 5, 2) := by decide +kernel
theorem dL_law_1975 : decode cL_law 1975 = .ok (.ifCond .ne 15, 3) := by decide +kernel
theorem dL_law_1978 : decode cL_law 1978 = .ok (.aload_n 3, 1) := by decide +kernel
theorem dL_law_1979 : decode cL_law 1979 = .ok (.iconst 0, 1) := by decide +kernel
theorem dL_law_1980 : decode cL_law 1980 = .ok (.laload, 1) := by decide +kernel
theorem dL_law_1981 : decode cL_law 1981 = .ok (.iload 6, 2) := by decide +kernel
theorem dL_law_1983 : decode cL_law 1983 = .ok (.i2l, 1) := by decide +kernel
theorem dL_law_1984 : decode cL_law 1984 = .ok (.lcmp, 1) := by decide +kernel
theorem dL_law_1985 : decode cL_law 1985 = .ok (.ifCond .eq 5, 3) := by decide +kernel
theorem dL_law_1988 : decode cL_law 1988 = .ok (.iconst 0, 1) := by decide +kernel
theorem dL_law_1989 : decode cL_law 1989 = .ok (.ireturn, 1) := by decide +kernel
theorem dL_law_1990 : decode cL_law 1990 = .ok (.goto 59, 3) := by decide +kernel
theorem dL_law_1993 : decode cL_law 1993 = .ok (.aload_n 1, 1) := by decide +kernel
theorem dL_law_1994 : decode cL_law 1994 = .ok (.aload_n 0, 1) := by decide +kernel
theorem dL_law_1995 : decode cL_law 1995 = .ok (.iload 4, 2) := by decide +kernel
theorem dL_law_1997 : decode cL_law 1997 = .ok (.iconst 1, 1) := by decide +kernel
theorem dL_law_1998 : decode cL_law 1998 = .ok (.iadd, 1) := by decide +kernel
theorem dL_law_1999 : decode cL_law 1999 = .ok (.iaload, 1) := by decide +kernel
theorem dL_law_2000 : decode cL_law 2000 = .ok (.aload_n 3, 1) := by decide +kernel
theorem dL_law_2001 : decode cL_law 2001 = .ok (.invokestatic 211, 3) := by decide +kernel
theorem dL_law_2004 : decode cL_law 2004 = .ok (.istore 5, 2) := by decide +kernel
theorem dL_law_2006 : decode cL_law 2006 = .ok (.aload_n 2, 1) := by decide +kernel
theorem dL_law_2007 : decode cL_law 2007 = .ok (.aload_n 0, 1) := by decide +kernel
theorem dL_law_2008 : decode cL_law 2008 = .ok (.iload 4, 2) := by decide +kernel
theorem dL_law_2010 : decode cL_law 2010 = .ok (.iconst 1, 1) := by decide +kernel
theorem dL_law_2011 : decode cL_law 2011 = .ok (.iadd, 1) := by decide +kernel
theorem dL_law_2012 : decode cL_law 2012 = .ok (.iaload, 1) := by decide +kernel
theorem dL_law_2013 : decode cL_law 2013 = .ok (.invokevirtual 213, 3) := by decide +kernel
theorem dL_law_2016 : decode cL_law 2016 = .ok (.istore 6, 2) := by decide +kernel
theorem dL_law_2018 : decode cL_law 2018 = .ok (.aload_n 2, 1) := by decide +kernel
theorem dL_law_2019 : decode cL_law 2019 = .ok (.invokevirtual 109, 3) := by decide +kernel
theorem dL_law_2022 : decode cL_law 2022 = .ok (.iload 5, 2) := by decide +kernel
theorem dL_law_2024 : decode cL_law 2024 = .ok (.if_icmp .eq 5, 3) := by decide +kernel
theorem dL_law_2027 : decode cL_law 2027 = .ok (.iconst 0, 1) := by decide +kernel
theorem dL_law_2028 : decode cL_law 2028 = .ok (.ireturn, 1) := by decide +kernel
theorem dL_law_2029 : decode cL_law 2029 = .ok (.iload 5, 2) := by decide +kernel
theorem dL_law_2031 : decode cL_law 2031 = .ok (.ifCond .ne 15, 3) := by decide +kernel
theorem dL_law_2034 : decode cL_law 2034 = .ok (.aload_n 3, 1) := by decide +kernel
theorem dL_law_2035 : decode cL_law 2035 = .ok (.iconst 0, 1) := by decide +kernel
theorem dL_law_2036 : decode cL_law 2036 = .ok (.laload, 1) := by decide +kernel
theorem dL_law_2037 : decode cL_law 2037 = .ok (.iload 6, 2) := by decide +kernel
theorem dL_law_2039 : decode cL_law 2039 = .ok (.i2l, 1) := by decide +kernel
theorem dL_law_2040 : decode cL_law 2040 = .ok (.lcmp, 1) := by decide +kernel
theorem dL_law_2041 : decode cL_law 2041 = .ok (.ifCond .eq 5, 3) := by decide +kernel
theorem dL_law_2044 : decode cL_law 2044 = .ok (.iconst 0, 1) := by decide +kernel
theorem dL_law_2045 : decode cL_law 2045 = .ok (.ireturn, 1) := by decide +kernel
theorem dL_law_2046 : decode cL_law 2046 = .ok (.goto 3, 3) := by decide +kernel
theorem dL_law_2049 : decode cL_law 2049 = .ok (.iinc 4 6, 3) := by decide +kernel
theorem dL_law_2052 : decode cL_law 2052 = .ok (.goto (-2029), 3) := by decide +kernel
theorem dL_law_2055 : decode cL_law 2055 = .ok (.iconst 1, 1) := by decide +kernel
theorem dL_law_2056 : decode cL_law 2056 = .ok (.ireturn, 1) := by decide +kernel
def LL_law_23 (T : zT) (xv : Nat → Int32) (L y1 y2 y3 : Nat) : Nat → Int32 → zH → Option Int32
  | 0, _, _ => none
  | k + 1, x10, h11 => if ((Int32.ofNat L) - 6) < x10 then (some 1) else (zJ (fun (h12 : zH) => LL_law_23 T xv L y1 y2 y3 k (x10 + 6) h12) (fun J13 => (zsc xv L x10).bind fun x14 => if (x14 &&& 31) = 0 then ((zsc xv L (x10 + 1)).bind fun x15 => zb2 (FL_append T y1 x15 y3 h11) fun x17 h18 => (zsc xv L (x10 + 1)).bind fun x19 => zb2 (FX7_append T y2 x19 h18) fun x21 h22 => (FX7_thrown T y2 h22).bind fun x24 => if x24 = x17 then (zJ (fun (u9 : Unit) => J13 h22) (fun J25 => if x17 = 0 then ((zli T h22 y3 0).bind fun x26 => if (lg_cmp x26 x21.toInt64) = 0 then (J25 ()) else (none)) else (J25 ()))) else (none)) else (if (x14 &&& 31) = 1 then (zb2 (FX6_clearText T y1 h11) fun x28 h29 => zb2 (FX7_clearText T y2 h29) fun x31 h32 => if x28 = x31 then (J13 h32) else (none)) else (if (x14 &&& 31) = 2 then (zb2 (FX6_errorPosition T y1 h11) fun x34 h35 => zb2 (FX7_errorPosition T y2 h35) fun x37 h38 => if x34 = x37 then (J13 h38) else (none)) else (if (x14 &&& 31) = 3 then (zb2 (FL_load T y1 y3 h11) fun x40 h41 => zb2 (FX7_load T y2 h41) fun x43 h44 => (FX7_thrown T y2 h44).bind fun x46 => if x46 = x40 then (zJ (fun (u9 : Unit) => J13 h44) (fun J47 => if x40 = 0 then ((zli T h44 y3 0).bind fun x48 => if (lg_cmp x48 x43.toInt64) = 0 then (J47 ()) else (none)) else (J47 ()))) else (none)) else (if (x14 &&& 31) = 4 then ((zsc xv L (x10 + 1)).bind fun x49 => zb2 (FL_about T y1 x49 y3 h11) fun x51 h52 => (zsc xv L (x10 + 1)).bind fun x53 => zb2 (FX7_about T y2 x53 h52) fun x55 h56 => (FX7_thrown T y2 h56).bind fun x58 => if x58 = x51 then (zJ (fun (u9 : Unit) => J13 h56) (fun J59 => if x51 = 0 then ((zli T h56 y3 0).bind fun x60 => if (lg_cmp x60 x55.toInt64) = 0 then (J59 ()) else (none)) else (J59 ()))) else (none)) else (if (x14 &&& 31) = 5 then ((zsc xv L (x10 + 1)).bind fun x61 => (zsc xv L (x10 + 2)).bind fun x62 => zb2 (FL_letter T y1 x61 x62 y3 h11) fun x64 h65 => (zsc xv L (x10 + 1)).bind fun x66 => (zsc xv L (x10 + 2)).bind fun x67 => zb2 (FX7_letter T y2 x66 x67 h65) fun x69 h70 => (FX7_thrown T y2 h70).bind fun x72 => if x72 = x64 then (zJ (fun (u9 : Unit) => J13 h70) (fun J73 => if x64 = 0 then ((zli T h70 y3 0).bind fun x74 => if (lg_cmp x74 x69.toInt64) = 0 then (J73 ()) else (none)) else (J73 ()))) else (none)) else (if (x14 &&& 31) = 6 then ((zsc xv L (x10 + 1)).bind fun x75 => (zsc xv L (x10 + 2)).bind fun x76 => zb2 (FL_marks T y1 x75 x76 y3 h11) fun x78 h79 => (zsc xv L (x10 + 1)).bind fun x80 => (zsc xv L (x10 + 2)).bind fun x81 => zb2 (FX7_marks T y2 x80 x81 h79) fun x83 h84 => (FX7_thrown T y2 h84).bind fun x86 => if x86 = x78 then (zJ (fun (u9 : Unit) => J13 h84) (fun J87 => if x78 = 0 then ((zli T h84 y3 0).bind fun x88 => if (lg_cmp x88 x83.toInt64) = 0 then (J87 ()) else (none)) else (J87 ()))) else (none)) else (if (x14 &&& 31) = 7 then ((zsc xv L (x10 + 1)).bind fun x89 => (zsc xv L (x10 + 2)).bind fun x90 => (zsc xv L (x10 + 3)).bind fun x91 => (zsc xv L (x10 + 4)).bind fun x92 => zb2 (FL_mark T y1 x89 x90 x91 x92 y3 h11) fun x94 h95 => (zsc xv L (x10 + 1)).bind fun x96 => (zsc xv L (x10 + 2)).bind fun x97 => (zsc xv L (x10 + 3)).bind fun x98 => (zsc xv L (x10 + 4)).bind fun x99 => zb2 (FX7_mark T y2 x96 x97 x98 x99 h95) fun x101 h102 => (FX7_thrown T y2 h102).bind fun x104 => if x104 = x94 then (zJ (fun (u9 : Unit) => J13 h102) (fun J105 => if x94 = 0 then ((zli T h102 y3 0).bind fun x106 => if (lg_cmp x106 x101.toInt64) = 0 then (J105 ()) else (none)) else (J105 ()))) else (none)) else (if (x14 &&& 31) = 8 then ((zsc xv L (x10 + 1)).bind fun x107 => (zsc xv L (x10 + 2)).bind fun x108 => zb2 (FL_wordLength T y1 x107 x108 y3 h11) fun x110 h111 => (zsc xv L (x10 + 1)).bind fun x112 => (zsc xv L (x10 + 2)).bind fun x113 => zb2 (FX7_wordLength T y2 x112 x113 h111) fun x115 h116 => (FX7_thrown T y2 h116).bind fun x118 => if x118 = x110 then (zJ (fun (u9 : Unit) => J13 h116) (fun J119 => if x110 = 0 then ((zli T h116 y3 0).bind fun x120 => if (lg_cmp x120 x115.toInt64) = 0 then (J119 ()) else (none)) else (J119 ()))) else (none)) else (if (x14 &&& 31) = 9 then ((zsc xv L (x10 + 1)).bind fun x121 => (zsc xv L (x10 + 2)).bind fun x122 => (zsc xv L (x10 + 3)).bind fun x123 => zb2 (FL_sign T y1 x121 x122 x123 y3 h11) fun x125 h126 => (zsc xv L (x10 + 1)).bind fun x127 => (zsc xv L (x10 + 2)).bind fun x128 => (zsc xv L (x10 + 3)).bind fun x129 => zb2 (FX7_sign T y2 x127 x128 x129 h126) fun x131 h132 => (FX7_thrown T y2 h132).bind fun x134 => if x134 = x125 then (zJ (fun (u9 : Unit) => J13 h132) (fun J135 => if x125 = 0 then ((zli T h132 y3 0).bind fun x136 => if (lg_cmp x136 x131.toInt64) = 0 then (J135 ()) else (none)) else (J135 ()))) else (none)) else (if (x14 &&& 31) = 10 then ((zsc xv L (x10 + 1)).bind fun x137 => (zsc xv L (x10 + 2)).bind fun x138 => (zsc xv L (x10 + 3)).bind fun x139 => zb2 (FL_wordAt T y1 x137 x138 x139 y3 h11) fun x141 h142 => (zsc xv L (x10 + 1)).bind fun x143 => (zsc xv L (x10 + 2)).bind fun x144 => (zsc xv L (x10 + 3)).bind fun x145 => zb2 (FX7_wordAt T y2 x143 x144 x145 h142) fun x147 h148 => (FX7_thrown T y2 h148).bind fun x150 => if x150 = x141 then (zJ (fun (u9 : Unit) => J13 h148) (fun J151 => if x141 = 0 then ((zli T h148 y3 0).bind fun x152 => if (lg_cmp x152 x147.toInt64) = 0 then (J151 ()) else (none)) else (J151 ()))) else (none)) else (if (x14 &&& 31) = 11 then ((zsc xv L (x10 + 1)).bind fun x153 => (zsc xv L (x10 + 2)).bind fun x154 => (zsc xv L (x10 + 3)).bind fun x155 => (zsc xv L (x10 + 4)).bind fun x156 => (zsc xv L (x10 + 5)).bind fun x157 => zb2 (FL_write T y1 x153 x154 x155 x156 x157 y3 h11) fun x159 h160 => (zsc xv L (x10 + 1)).bind fun x161 => (zsc xv L (x10 + 2)).bind fun x162 => (zsc xv L (x10 + 3)).bind fun x163 => (zsc xv L (x10 + 4)).bind fun x164 => (zsc xv L (x10 + 5)).bind fun x165 => zb2 (FX7_write T y2 x161 x162 x163 x164 x165 h160) fun x167 h168 => (FX7_thrown T y2 h168).bind fun x170 => if x170 = x159 then (zJ (fun (u9 : Unit) => J13 h168) (fun J171 => if x159 = 0 then ((zli T h168 y3 0).bind fun x172 => if (lg_cmp x172 x167.toInt64) = 0 then (J171 ()) else (none)) else (J171 ()))) else (none)) else (if (x14 &&& 31) = 12 then ((zsc xv L (x10 + 1)).bind fun x173 => (zsc xv L (x10 + 2)).bind fun x174 => (zsc xv L (x10 + 3)).bind fun x175 => zb2 (FL_erase T y1 x173 x174 x175 y3 h11) fun x177 h178 => (zsc xv L (x10 + 1)).bind fun x179 => (zsc xv L (x10 + 2)).bind fun x180 => (zsc xv L (x10 + 3)).bind fun x181 => zb2 (FX7_erase T y2 x179 x180 x181 h178) fun x183 h184 => (FX7_thrown T y2 h184).bind fun x186 => if x186 = x177 then (zJ (fun (u9 : Unit) => J13 h184) (fun J187 => if x177 = 0 then ((zli T h184 y3 0).bind fun x188 => if (lg_cmp x188 x183.toInt64) = 0 then (J187 ()) else (none)) else (J187 ()))) else (none)) else (if (x14 &&& 31) = 13 then ((zsc xv L (x10 + 1)).bind fun x189 => (zsc xv L (x10 + 2)).bind fun x190 => (zsc xv L (x10 + 3)).bind fun x191 => (zsc xv L (x10 + 4)).bind fun x192 => zb2 (FL_decide T y1 x189 x190 x191 x192 y3 h11) fun x194 h195 => (zsc xv L (x10 + 1)).bind fun x196 => (zsc xv L (x10 + 2)).bind fun x197 => (zsc xv L (x10 + 3)).bind fun x198 => (zsc xv L (x10 + 4)).bind fun x199 => zb2 (FX7_decide T y2 x196 x197 x198 x199 h195) fun x201 h202 => (FX7_thrown T y2 h202).bind fun x204 => if x204 = x194 then (zJ (fun (u9 : Unit) => J13 h202) (fun J205 => if x194 = 0 then ((zli T h202 y3 0).bind fun x206 => if (lg_cmp x206 x201.toInt64) = 0 then (J205 ()) else (none)) else (J205 ()))) else (none)) else (if (x14 &&& 31) = 14 then ((zsc xv L (x10 + 1)).bind fun x207 => (zsc xv L (x10 + 2)).bind fun x208 => (zsc xv L (x10 + 3)).bind fun x209 => (zsc xv L (x10 + 4)).bind fun x210 => zb2 (FL_setLetter T y1 x207 x208 x209 x210 y3 h11) fun x212 h213 => (zsc xv L (x10 + 1)).bind fun x214 => (zsc xv L (x10 + 2)).bind fun x215 => (zsc xv L (x10 + 3)).bind fun x216 => (zsc xv L (x10 + 4)).bind fun x217 => zb2 (FX7_setLetter T y2 x214 x215 x216 x217 h213) fun x219 h220 => (FX7_thrown T y2 h220).bind fun x222 => if x222 = x212 then (zJ (fun (u9 : Unit) => J13 h220) (fun J223 => if x212 = 0 then ((zli T h220 y3 0).bind fun x224 => if (lg_cmp x224 x219.toInt64) = 0 then (J223 ()) else (none)) else (J223 ()))) else (none)) else (if (x14 &&& 31) = 15 then ((zsc xv L (x10 + 1)).bind fun x225 => zb2 (FL_setMargin T y1 x225 y3 h11) fun x227 h228 => (zsc xv L (x10 + 1)).bind fun x229 => zb2 (FX7_setMargin T y2 x229 h228) fun x231 h232 => (FX7_thrown T y2 h232).bind fun x234 => if x234 = x227 then (zJ (fun (u9 : Unit) => J13 h232) (fun J235 => if x227 = 0 then ((zli T h232 y3 0).bind fun x236 => if (lg_cmp x236 x231.toInt64) = 0 then (J235 ()) else (none)) else (J235 ()))) else (none)) else (if (x14 &&& 31) = 16 then ((zsc xv L (x10 + 1)).bind fun x237 => zb2 (FL_setGap T y1 x237 y3 h11) fun x239 h240 => (zsc xv L (x10 + 1)).bind fun x241 => zb2 (FX7_setGap T y2 x241 h240) fun x243 h244 => (FX7_thrown T y2 h244).bind fun x246 => if x246 = x239 then (zJ (fun (u9 : Unit) => J13 h244) (fun J247 => if x239 = 0 then ((zli T h244 y3 0).bind fun x248 => if (lg_cmp x248 x243.toInt64) = 0 then (J247 ()) else (none)) else (J247 ()))) else (none)) else (if (x14 &&& 31) = 17 then (zb2 (FX6_turn T y1 h11) fun x250 h251 => zb2 (FX7_turn T y2 h251) fun x253 h254 => if x250 = x253 then (J13 h254) else (none)) else (if (x14 &&& 31) = 18 then (zb2 (FL_undo T y1 y3 h11) fun x256 h257 => zb2 (FX7_undo T y2 h257) fun x259 h260 => (FX7_thrown T y2 h260).bind fun x262 => if x262 = x256 then (zJ (fun (u9 : Unit) => J13 h260) (fun J263 => if x256 = 0 then ((zli T h260 y3 0).bind fun x264 => if (lg_cmp x264 x259.toInt64) = 0 then (J263 ()) else (none)) else (J263 ()))) else (none)) else (if (x14 &&& 31) = 19 then ((zsc xv L (x10 + 1)).bind fun x265 => (zsc xv L (x10 + 2)).bind fun x266 => (zsc xv L (x10 + 3)).bind fun x267 => (zsc xv L (x10 + 4)).bind fun x268 => zb2 (FL_find T y1 x265 x266 ((zlshl x267.toInt64 32) ||| (x268.toInt64 &&& (4294967295 : Int64))) y3 h11) fun x270 h271 => (zsc xv L (x10 + 1)).bind fun x272 => (zsc xv L (x10 + 2)).bind fun x273 => (zsc xv L (x10 + 3)).bind fun x274 => (zsc xv L (x10 + 4)).bind fun x275 => zb2 (FX7_find T y2 x272 x273 ((zlshl x274.toInt64 32) ||| (x275.toInt64 &&& (4294967295 : Int64))) h271) fun x277 h278 => (FX7_thrown T y2 h278).bind fun x280 => if x280 = x270 then (zJ (fun (u9 : Unit) => J13 h278) (fun J281 => if x270 = 0 then ((zli T h278 y3 0).bind fun x282 => if (lg_cmp x282 x277.toInt64) = 0 then (J281 ()) else (none)) else (J281 ()))) else (none)) else (if (x14 &&& 31) = 20 then (zb2 (FX6_shared T y1 h11) fun x284 h285 => zb2 (FX7_shared T y2 h285) fun x287 h288 => if x284 = x287 then (J13 h288) else (none)) else (if (x14 &&& 31) = 21 then ((zsc xv L (x10 + 1)).bind fun x289 => (zsc xv L (x10 + 2)).bind fun x290 => zb2 (FL_count T y1 x289 x290 y3 h11) fun x292 h293 => (zsc xv L (x10 + 1)).bind fun x294 => (zsc xv L (x10 + 2)).bind fun x295 => zb2 (FX7_count T y2 x294 x295 h293) fun x297 h298 => (FX7_thrown T y2 h298).bind fun x300 => if x300 = x292 then (zJ (fun (u9 : Unit) => J13 h298) (fun J301 => if x292 = 0 then ((zli T h298 y3 0).bind fun x302 => if (lg_cmp x302 x297.toInt64) = 0 then (J301 ()) else (none)) else (J301 ()))) else (none)) else (if (x14 &&& 31) = 22 then ((zsc xv L (x10 + 1)).bind fun x303 => zb2 (FL_bestPen T y1 x303 y3 h11) fun x305 h306 => (zsc xv L (x10 + 1)).bind fun x307 => zb2 (FX7_bestPen T y2 x307 h306) fun x309 h310 => (FX7_thrown T y2 h310).bind fun x312 => if x312 = x305 then (zJ (fun (u9 : Unit) => J13 h310) (fun J313 => if x305 = 0 then ((zli T h310 y3 0).bind fun x314 => if (lg_cmp x314 x309.toInt64) = 0 then (J313 ()) else (none)) else (J313 ()))) else (none)) else (if (x14 &&& 31) = 23 then (zb2 (FX6_greatestMargin T y1 h11) fun x316 h317 => zb2 (FX7_greatestMargin T y2 h317) fun x319 h320 => if x316 = x319 then (J13 h320) else (none)) else (if (x14 &&& 31) = 24 then ((zsc xv L (x10 + 1)).bind fun x321 => zb2 (FL_bestDecision T y1 x321 y3 h11) fun x323 h324 => (zsc xv L (x10 + 1)).bind fun x325 => zb2 (FX7_bestDecision T y2 x325 h324) fun x327 h328 => (FX7_thrown T y2 h328).bind fun x330 => if x330 = x323 then (zJ (fun (u9 : Unit) => J13 h328) (fun J331 => if x323 = 0 then ((zli T h328 y3 0).bind fun x332 => if (lg_cmp x332 x327.toInt64) = 0 then (J331 ()) else (none)) else (J331 ()))) else (none)) else (if (x14 &&& 31) = 25 then ((zsc xv L (x10 + 1)).bind fun x333 => (zsc xv L (x10 + 2)).bind fun x334 => zb2 (FL_wordsWith T y1 x333 x334 y3 h11) fun x336 h337 => (zsc xv L (x10 + 1)).bind fun x338 => (zsc xv L (x10 + 2)).bind fun x339 => zb2 (FX7_wordsWith T y2 x338 x339 h337) fun x341 h342 => (FX7_thrown T y2 h342).bind fun x344 => if x344 = x336 then (zJ (fun (u9 : Unit) => J13 h342) (fun J345 => if x336 = 0 then ((zli T h342 y3 0).bind fun x346 => if (lg_cmp x346 x341.toInt64) = 0 then (J345 ()) else (none)) else (J345 ()))) else (none)) else (if (x14 &&& 31) = 26 then ((zsc xv L (x10 + 1)).bind fun x347 => (zsc xv L (x10 + 2)).bind fun x348 => (zsc xv L (x10 + 3)).bind fun x349 => zb2 (FL_runScript T y1 x347 ((zlshl x348.toInt64 32) ||| (x349.toInt64 &&& (4294967295 : Int64))) y3 h11) fun x351 h352 => (zsc xv L (x10 + 1)).bind fun x353 => (zsc xv L (x10 + 2)).bind fun x354 => (zsc xv L (x10 + 3)).bind fun x355 => zb2 (FX7_runScript T y2 x353 ((zlshl x354.toInt64 32) ||| (x355.toInt64 &&& (4294967295 : Int64))) h352) fun x357 h358 => (FX7_thrown T y2 h358).bind fun x360 => if x360 = x351 then (zJ (fun (u9 : Unit) => J13 h358) (fun J361 => if x351 = 0 then ((zli T h358 y3 0).bind fun x362 => if (lg_cmp x362 x357.toInt64) = 0 then (J361 ()) else (none)) else (J361 ()))) else (none)) else (if (x14 &&& 31) = 27 then ((zsc xv L (x10 + 1)).bind fun x363 => (zsc xv L (x10 + 2)).bind fun x364 => (zsc xv L (x10 + 3)).bind fun x365 => zb2 (FL_simulate T y1 ((zlshl x363.toInt64 32) ||| (x364.toInt64 &&& (4294967295 : Int64))) x365 y3 h11) fun x367 h368 => (zsc xv L (x10 + 1)).bind fun x369 => (zsc xv L (x10 + 2)).bind fun x370 => (zsc xv L (x10 + 3)).bind fun x371 => zb2 (FX7_simulate T y2 ((zlshl x369.toInt64 32) ||| (x370.toInt64 &&& (4294967295 : Int64))) x371 h368) fun x373 h374 => (FX7_thrown T y2 h374).bind fun x376 => if x376 = x367 then (zJ (fun (u9 : Unit) => J13 h374) (fun J377 => if x367 = 0 then ((zli T h374 y3 0).bind fun x378 => if (lg_cmp x378 x373.toInt64) = 0 then (J377 ()) else (none)) else (J377 ()))) else (none)) else (if (x14 &&& 31) = 28 then ((zsc xv L (x10 + 1)).bind fun x379 => zb2 (FL_save T y1 x379 y3 h11) fun x381 h382 => (zsc xv L (x10 + 1)).bind fun x383 => zb2 (FX7_save T y2 x383 h382) fun x385 h386 => (FX7_thrown T y2 h386).bind fun x388 => if x388 = x381 then (zJ (fun (u9 : Unit) => J13 h386) (fun J389 => if x381 = 0 then ((zli T h386 y3 0).bind fun x390 => if (lg_cmp x390 x385.toInt64) = 0 then (J389 ()) else (none)) else (J389 ()))) else (none)) else (if (x14 &&& 31) = 29 then ((zsc xv L (x10 + 1)).bind fun x391 => zb2 (FL_restore T y1 x391 y3 h11) fun x393 h394 => (zsc xv L (x10 + 1)).bind fun x395 => zb2 (FX7_restore T y2 x395 h394) fun x397 h398 => (FX7_thrown T y2 h398).bind fun x400 => if x400 = x393 then (zJ (fun (u9 : Unit) => J13 h398) (fun J401 => if x393 = 0 then ((zli T h398 y3 0).bind fun x402 => if (lg_cmp x402 x397.toInt64) = 0 then (J401 ()) else (none)) else (J401 ()))) else (none)) else (J13 h11))))))))))))))))))))))))))))))))
set_option maxHeartbeats 40000000 in
set_option maxRecDepth 100000 in
theorem LL_law_23_ok {X : zX} {bs L : Nat} {xv : Nat → Int32} (CL : zLC X 9 215 bs L xv) {Z : State → Prop} {hi : Nat} {r9 : Int32} {y1 y2 y3 : Nat} (hret : ∀ kc ks hi h lv al, zW X 7 Z kc ks al hi h 2055 lv []) : ∀ (k : Nat) (x10 : Int32) (h11 : zH), LL_law_23 (xT X) xv L y1 y2 y3 k x10 h11 = some r9 → zW X 7 Z (k * 5) (k * 30) false hi h11 23 [(0, .ref bs), (1, .ref y1), (2, .ref y2), (3, .ref y3), (4, .int x10)] [] := by
  have C := CL.1
  intro k
  induction k with
  | zero =>
    intro x10 h11 hf
    have hf : none = some r9 := hf
    cases hf
  | succ k ih =>
    intro x10 h11 hf
    rw [LL_law_23.eq_2] at hf
    refine z_iload C dL_law_23 4 rfl ?_
    refine z_aload_n C dL_law_25 0 rfl rfl ?_
    refine z_slen CL dL_law_26 ?_
    refine z_bipush C (v := 6) dL_law_27 (by decide) ?_
    refine z_isub C dL_law_29 ?_
    refine z_icmp_gt (tgt := 2055) C dL_law_30 (by decide) hf (fun hf => ?_) (fun hf => ?_)
    · exact hret _ _ _ _ _ _
    · refine z_join (P := fun J => ∀ (h12 : zH), J h12 = some r9 → zW X 7 Z (k * 5) (k * 30) false hi h12 2049 [(0, .ref bs), (1, .ref y1), (2, .ref y2), (3, .ref y3), (4, .int x10)] []) hf ?_ ?_
      · intro h12 hf
        refine z_iinc C dL_law_2049 (k := 4) (d := 6) rfl (by decide) (by decide) (lv' := [(4, .int (x10 + 6)), (0, .ref bs), (1, .ref y1), (2, .ref y2), (3, .ref y3)]) rfl ?_
        refine z_goto (tgt := 23) C dL_law_2052 (by decide) ?_
        refine z_less (kc' := k * 5) (ks' := k * 30) (by omega) (by omega) ?_
        refine z_sub [1, 2, 3, 4, 0] rfl ?_
        exact ih _ _ hf
      · intro J13 kJ13 hf
        refine z_aload_n C dL_law_33 0 rfl rfl ?_
        refine z_iload C dL_law_34 4 rfl ?_
        refine z_sld CL dL_law_36 hf (fun x14 hf => ?_)
        refine z_bipush C (v := 31) dL_law_37 (by decide) ?_
        refine z_iand C dL_law_39 ?_
        refine z_ite hf (fun c hf => ?_) (fun c0 hf => ?_)
        · refine z_tswIn (k := 0) (off := 136) (tgt := 176) C c dL_law_40 (by decide) (by decide) ?_
          refine z_aload_n C dL_law_176 1 rfl rfl ?_
          refine z_aload_n C dL_law_177 0 rfl rfl ?_
          refine z_iload C dL_law_178 4 rfl ?_
          refine z_iconst C (v := 1) dL_law_180 (by decide) ?_
          refine z_iadd C dL_law_181 ?_
          refine z_sld CL dL_law_182 hf (fun x15 hf => ?_)
          refine z_aload_n C dL_law_183 3 rfl rfl ?_
          obtain ⟨x17, h18, g16, hf⟩ := zbind2 hf
          refine z_callW (kc' := k * 5 + 3) (ks' := k * 30 + 18) CL (ML_append (xl X) CL.2.2.2.1 (xD X) (xT X) (xlo X) hi g16) cw_L_103 ys_L_append dL_law_184 rfl (by decide) ⟨by show 2 + _ = _; omega, by show 12 + _ = _; omega⟩ (Nat.le_of_ble_eq_true rfl) (st := []) rfl ?_
          refine z_istore C dL_law_187 (by decide) (lv' := [(5, .int x17), (0, .ref bs), (1, .ref y1), (2, .ref y2), (3, .ref y3), (4, .int x10)]) rfl ?_
          refine z_aload_n C dL_law_189 3 rfl rfl ?_
          refine z_aload_n C dL_law_190 1 rfl rfl ?_
          refine z_iload C dL_law_191 5 rfl ?_
          refine z_iconst C (v := 1) dL_law_193 (by decide) ?_
          refine z_iadd C dL_law_194 ?_
          refine z_sld CL dL_law_195 hf (fun x19 hf => ?_)
          obtain ⟨x21, h22, g20, hf⟩ := zbind2 hf
          refine z_callV C (MX7_append (xl X) (xD X) (xT X) (xlo X) false hi g20) (OX7_append g20) rfl cw_L_108 yv_X7_append dL_law_196 rfl (by decide) ⟨Nat.zero_add _, Nat.zero_add _⟩ (Nat.le_of_ble_eq_true rfl) (st := []) rfl ?_
          refine z_istore C dL_law_199 (by decide) (lv' := [(6, .int x21), (5, .int x17), (0, .ref bs), (1, .ref y1), (2, .ref y2), (3, .ref y3), (4, .int x10)]) rfl ?_
          refine z_aload_n C dL_law_201 4 rfl rfl ?_
          obtain ⟨x24, g23, hf⟩ := zbind hf
          refine z_callV C (MX7_thrown (xl X) (xD X) (xT X) (xlo X) false hi g23) (OX7_thrown g23) rfl cw_L_109 yv_X7_thrown dL_law_202 rfl (by decide) ⟨Nat.zero_add _, Nat.zero_add _⟩ (Nat.le_of_ble_eq_true rfl) (st := []) rfl ?_
          refine z_iload C dL_law_205 1 rfl ?_
          refine z_icmp_eq (tgt := 212) C dL_law_207 (by decide) hf (fun hf => ?_) (fun hf => ?_)
          · refine z_join (P := fun J => ∀ (u9 : Unit), J u9 = some r9 → zW X 7 Z (k * 5) (k * 30) false hi h22 229 [(0, .ref bs), (1, .ref y1), (2, .ref y2), (3, .ref y3), (4, .int x10)] []) hf ?_ ?_
            · intro u9 hf
              refine z_goto (tgt := 2049) C dL_law_229 (by decide) ?_
              refine z_less (kc' := k * 5) (ks' := k * 30) (by omega) (by omega) ?_
              exact kJ13 _ hf
            · intro J25 kJ25 hf
              refine z_iload C dL_law_212 1 rfl ?_
              refine z_if_ne (tgt := 229) C dL_law_214 (by decide) hf (fun hf => ?_) (fun hf => ?_)
              · refine z_less (kc' := k * 5) (ks' := k * 30) (by omega) (by omega) ?_
                refine z_sub [2, 3, 4, 5, 6] rfl ?_
                exact kJ25 _ hf
              · refine z_aload_n C dL_law_217 5 rfl rfl ?_
                refine z_iconst C (v := 0) dL_law_218 (by decide) ?_
                refine z_laload C dL_law_219 hf (fun x26 hf => ?_)
                refine z_iload C dL_law_220 0 rfl ?_
                refine z_i2l C dL_law_222 ?_
                refine z_lcmp C dL_law_223 ?_
                refine z_if_eq (tgt := 229) C dL_law_224 (by decide) hf (fun hf => ?_) (fun hf => ?_)
                · refine z_less (kc' := k * 5) (ks' := k * 30) (by omega) (by omega) ?_
                  refine z_sub [2, 3, 4, 5, 6] rfl ?_
                  exact kJ25 _ hf
                · exact nomatch hf
          · exact nomatch hf
        · refine z_ite hf (fun c hf => ?_) (fun c1 hf => ?_)
          · refine z_tswIn (k := 1) (off := 192) (tgt := 232) C c dL_law_40 (by decide) (by decide) ?_
            refine z_aload_n C dL_law_232 1 rfl rfl ?_
            obtain ⟨x28, h29, g27, hf⟩ := zbind2 hf
            refine z_callV C (MX6_clearText (xl X) (xD X) (xT X) (xlo X) false hi g27) (OX6_clearText g27) rfl cw_L_112 yv_X6_clearText dL_law_233 rfl (by decide) ⟨Nat.zero_add _, Nat.zero_add _⟩ (Nat.le_of_ble_eq_true rfl) (st := []) rfl ?_
            refine z_aload_n C dL_law_236 2 rfl rfl ?_
            obtain ⟨x31, h32, g30, hf⟩ := zbind2 hf
            refine z_callV C (MX7_clearText (xl X) (xD X) (xT X) (xlo X) false hi g30) (OX7_clearText g30) rfl cw_L_115 yv_X7_clearText dL_law_237 rfl (by decide) ⟨Nat.zero_add _, Nat.zero_add _⟩ (Nat.le_of_ble_eq_true rfl) (st := [.int x28]) rfl ?_
            refine z_icmp_eq (tgt := 2049) C dL_law_240 (by decide) hf (fun hf => ?_) (fun hf => ?_)
            · refine z_less (kc' := k * 5) (ks' := k * 30) (by omega) (by omega) ?_
              exact kJ13 _ hf
            · exact nomatch hf
          · refine z_ite hf (fun c hf => ?_) (fun c2 hf => ?_)
            · refine z_tswIn (k := 2) (off := 205) (tgt := 245) C c dL_law_40 (by decide) (by decide) ?_
              refine z_aload_n C dL_law_245 1 rfl rfl ?_
              obtain ⟨x34, h35, g33, hf⟩ := zbind2 hf
              refine z_callV C (MX6_errorPosition (xl X) (xD X) (xT X) (xlo X) false hi g33) (OX6_errorPosition g33) rfl cw_L_116 yv_X6_errorPosition dL_law_246 rfl (by decide) ⟨Nat.zero_add _, Nat.zero_add _⟩ (Nat.le_of_ble_eq_true rfl) (st := []) rfl ?_
              refine z_aload_n C dL_law_249 2 rfl rfl ?_
              obtain ⟨x37, h38, g36, hf⟩ := zbind2 hf
              refine z_callV C (MX7_errorPosition (xl X) (xD X) (xT X) (xlo X) false hi g36) (OX7_errorPosition g36) rfl cw_L_119 yv_X7_errorPosition dL_law_250 rfl (by decide) ⟨Nat.zero_add _, Nat.zero_add _⟩ (Nat.le_of_ble_eq_true rfl) (st := [.int x34]) rfl ?_
              refine z_icmp_eq (tgt := 2049) C dL_law_253 (by decide) hf (fun hf => ?_) (fun hf => ?_)
              · refine z_less (kc' := k * 5) (ks' := k * 30) (by omega) (by omega) ?_
                exact kJ13 _ hf
              · exact nomatch hf
            · refine z_ite hf (fun c hf => ?_) (fun c3 hf => ?_)
              · refine z_tswIn (k := 3) (off := 218) (tgt := 258) C c dL_law_40 (by decide) (by decide) ?_
                refine z_aload_n C dL_law_258 1 rfl rfl ?_
                refine z_aload_n C dL_law_259 3 rfl rfl ?_
                obtain ⟨x40, h41, g39, hf⟩ := zbind2 hf
                refine z_callW (kc' := k * 5 + 4) (ks' := k * 30 + 24) CL (ML_load (xl X) CL.2.2.2.1 (xD X) (xT X) (xlo X) hi g39) cw_L_120 ys_L_load dL_law_260 rfl (by decide) ⟨by show 1 + _ = _; omega, by show 6 + _ = _; omega⟩ (Nat.le_of_ble_eq_true rfl) (st := []) rfl ?_
                refine z_istore C dL_law_263 (by decide) (lv' := [(5, .int x40), (0, .ref bs), (1, .ref y1), (2, .ref y2), (3, .ref y3), (4, .int x10)]) rfl ?_
                refine z_aload_n C dL_law_265 3 rfl rfl ?_
                obtain ⟨x43, h44, g42, hf⟩ := zbind2 hf
                refine z_callV C (MX7_load (xl X) (xD X) (xT X) (xlo X) false hi g42) (OX7_load g42) rfl cw_L_123 yv_X7_load dL_law_266 rfl (by decide) ⟨Nat.zero_add _, Nat.zero_add _⟩ (Nat.le_of_ble_eq_true rfl) (st := []) rfl ?_
                refine z_istore C dL_law_269 (by decide) (lv' := [(6, .int x43), (5, .int x40), (0, .ref bs), (1, .ref y1), (2, .ref y2), (3, .ref y3), (4, .int x10)]) rfl ?_
                refine z_aload_n C dL_law_271 4 rfl rfl ?_
                obtain ⟨x46, g45, hf⟩ := zbind hf
                refine z_callV C (MX7_thrown (xl X) (xD X) (xT X) (xlo X) false hi g45) (OX7_thrown g45) rfl cw_L_109 yv_X7_thrown dL_law_272 rfl (by decide) ⟨Nat.zero_add _, Nat.zero_add _⟩ (Nat.le_of_ble_eq_true rfl) (st := []) rfl ?_
                refine z_iload C dL_law_275 1 rfl ?_
                refine z_icmp_eq (tgt := 282) C dL_law_277 (by decide) hf (fun hf => ?_) (fun hf => ?_)
                · refine z_join (P := fun J => ∀ (u9 : Unit), J u9 = some r9 → zW X 7 Z (k * 5) (k * 30) false hi h44 299 [(0, .ref bs), (1, .ref y1), (2, .ref y2), (3, .ref y3), (4, .int x10)] []) hf ?_ ?_
                  · intro u9 hf
                    refine z_goto (tgt := 2049) C dL_law_299 (by decide) ?_
                    refine z_less (kc' := k * 5) (ks' := k * 30) (by omega) (by omega) ?_
                    exact kJ13 _ hf
                  · intro J47 kJ47 hf
                    refine z_iload C dL_law_282 1 rfl ?_
                    refine z_if_ne (tgt := 299) C dL_law_284 (by decide) hf (fun hf => ?_) (fun hf => ?_)
                    · refine z_less (kc' := k * 5) (ks' := k * 30) (by omega) (by omega) ?_
                      refine z_sub [2, 3, 4, 5, 6] rfl ?_
                      exact kJ47 _ hf
                    · refine z_aload_n C dL_law_287 5 rfl rfl ?_
                      refine z_iconst C (v := 0) dL_law_288 (by decide) ?_
                      refine z_laload C dL_law_289 hf (fun x48 hf => ?_)
                      refine z_iload C dL_law_290 0 rfl ?_
                      refine z_i2l C dL_law_292 ?_
                      refine z_lcmp C dL_law_293 ?_
                      refine z_if_eq (tgt := 299) C dL_law_294 (by decide) hf (fun hf => ?_) (fun hf => ?_)
                      · refine z_less (kc' := k * 5) (ks' := k * 30) (by omega) (by omega) ?_
                        refine z_sub [2, 3, 4, 5, 6] rfl ?_
                        exact kJ47 _ hf
                      · exact nomatch hf
                · exact nomatch hf
              · refine z_ite hf (fun c hf => ?_) (fun c4 hf => ?_)
                · refine z_tswIn (k := 4) (off := 262) (tgt := 302) C c dL_law_40 (by decide) (by decide) ?_
                  refine z_aload_n C dL_law_302 1 rfl rfl ?_
                  refine z_aload_n C dL_law_303 0 rfl rfl ?_
                  refine z_iload C dL_law_304 4 rfl ?_
                  refine z_iconst C (v := 1) dL_law_306 (by decide) ?_
                  refine z_iadd C dL_law_307 ?_
                  refine z_sld CL dL_law_308 hf (fun x49 hf => ?_)
                  refine z_aload_n C dL_law_309 3 rfl rfl ?_
                  obtain ⟨x51, h52, g50, hf⟩ := zbind2 hf
                  refine z_callW (kc' := k * 5 + 4) (ks' := k * 30 + 24) CL (ML_about (xl X) CL.2.2.2.1 (xD X) (xT X) (xlo X) hi g50) cw_L_124 ys_L_about dL_law_310 rfl (by decide) ⟨by show 1 + _ = _; omega, by show 6 + _ = _; omega⟩ (Nat.le_of_ble_eq_true rfl) (st := []) rfl ?_
                  refine z_istore C dL_law_313 (by decide) (lv' := [(5, .int x51), (0, .ref bs), (1, .ref y1), (2, .ref y2), (3, .ref y3), (4, .int x10)]) rfl ?_
                  refine z_aload_n C dL_law_315 3 rfl rfl ?_
                  refine z_aload_n C dL_law_316 1 rfl rfl ?_
                  refine z_iload C dL_law_317 5 rfl ?_
                  refine z_iconst C (v := 1) dL_law_319 (by decide) ?_
                  refine z_iadd C dL_law_320 ?_
                  refine z_sld CL dL_law_321 hf (fun x53 hf => ?_)
                  obtain ⟨x55, h56, g54, hf⟩ := zbind2 hf
                  refine z_callV C (MX7_about (xl X) (xD X) (xT X) (xlo X) false hi g54) (OX7_about g54) rfl cw_L_126 yv_X7_about dL_law_322 rfl (by decide) ⟨Nat.zero_add _, Nat.zero_add _⟩ (Nat.le_of_ble_eq_true rfl) (st := []) rfl ?_
                  refine z_istore C dL_law_325 (by decide) (lv' := [(6, .int x55), (5, .int x51), (0, .ref bs), (1, .ref y1), (2, .ref y2), (3, .ref y3), (4, .int x10)]) rfl ?_
                  refine z_aload_n C dL_law_327 4 rfl rfl ?_
                  obtain ⟨x58, g57, hf⟩ := zbind hf
                  refine z_callV C (MX7_thrown (xl X) (xD X) (xT X) (xlo X) false hi g57) (OX7_thrown g57) rfl cw_L_109 yv_X7_thrown dL_law_328 rfl (by decide) ⟨Nat.zero_add _, Nat.zero_add _⟩ (Nat.le_of_ble_eq_true rfl) (st := []) rfl ?_
                  refine z_iload C dL_law_331 1 rfl ?_
                  refine z_icmp_eq (tgt := 338) C dL_law_333 (by decide) hf (fun hf => ?_) (fun hf => ?_)
                  · refine z_join (P := fun J => ∀ (u9 : Unit), J u9 = some r9 → zW X 7 Z (k * 5) (k * 30) false hi h56 355 [(0, .ref bs), (1, .ref y1), (2, .ref y2), (3, .ref y3), (4, .int x10)] []) hf ?_ ?_
                    · intro u9 hf
                      refine z_goto (tgt := 2049) C dL_law_355 (by decide) ?_
                      refine z_less (kc' := k * 5) (ks' := k * 30) (by omega) (by omega) ?_
                      exact kJ13 _ hf
                    · intro J59 kJ59 hf
                      refine z_iload C dL_law_338 1 rfl ?_
                      refine z_if_ne (tgt := 355) C dL_law_340 (by decide) hf (fun hf => ?_) (fun hf => ?_)
                      · refine z_less (kc' := k * 5) (ks' := k * 30) (by omega) (by omega) ?_
                        refine z_sub [2, 3, 4, 5, 6] rfl ?_
                        exact kJ59 _ hf
                      · refine z_aload_n C dL_law_343 5 rfl rfl ?_
                        refine z_iconst C (v := 0) dL_law_344 (by decide) ?_
                        refine z_laload C dL_law_345 hf (fun x60 hf => ?_)
                        refine z_iload C dL_law_346 0 rfl ?_
                        refine z_i2l C dL_law_348 ?_
                        refine z_lcmp C dL_law_349 ?_
                        refine z_if_eq (tgt := 355) C dL_law_350 (by decide) hf (fun hf => ?_) (fun hf => ?_)
                        · refine z_less (kc' := k * 5) (ks' := k * 30) (by omega) (by omega) ?_
                          refine z_sub [2, 3, 4, 5, 6] rfl ?_
                          exact kJ59 _ hf
                        · exact nomatch hf
                  · exact nomatch hf
                · refine z_ite hf (fun c hf => ?_) (fun c5 hf => ?_)
                  · refine z_tswIn (k := 5) (off := 318) (tgt := 358) C c dL_law_40 (by decide) (by decide) ?_
                    refine z_aload_n C dL_law_358 1 rfl rfl ?_
                    refine z_aload_n C dL_law_359 0 rfl rfl ?_
                    refine z_iload C dL_law_360 4 rfl ?_
                    refine z_iconst C (v := 1) dL_law_362 (by decide) ?_
                    refine z_iadd C dL_law_363 ?_
                    refine z_sld CL dL_law_364 hf (fun x61 hf => ?_)
                    refine z_aload_n C dL_law_365 0 rfl rfl ?_
                    refine z_iload C dL_law_366 4 rfl ?_
                    refine z_iconst C (v := 2) dL_law_368 (by decide) ?_
                    refine z_iadd C dL_law_369 ?_
                    refine z_sld CL dL_law_370 hf (fun x62 hf => ?_)
                    refine z_aload_n C dL_law_371 3 rfl rfl ?_
                    obtain ⟨x64, h65, g63, hf⟩ := zbind2 hf
                    refine z_callW (kc' := k * 5 + 3) (ks' := k * 30 + 18) CL (ML_letter (xl X) CL.2.2.2.1 (xD X) (xT X) (xlo X) hi g63) cw_L_127 ys_L_letter dL_law_372 rfl (by decide) ⟨by show 2 + _ = _; omega, by show 12 + _ = _; omega⟩ (Nat.le_of_ble_eq_true rfl) (st := []) rfl ?_
                    refine z_istore C dL_law_375 (by decide) (lv' := [(5, .int x64), (0, .ref bs), (1, .ref y1), (2, .ref y2), (3, .ref y3), (4, .int x10)]) rfl ?_
                    refine z_aload_n C dL_law_377 3 rfl rfl ?_
                    refine z_aload_n C dL_law_378 1 rfl rfl ?_
                    refine z_iload C dL_law_379 5 rfl ?_
                    refine z_iconst C (v := 1) dL_law_381 (by decide) ?_
                    refine z_iadd C dL_law_382 ?_
                    refine z_sld CL dL_law_383 hf (fun x66 hf => ?_)
                    refine z_aload_n C dL_law_384 1 rfl rfl ?_
                    refine z_iload C dL_law_385 5 rfl ?_
                    refine z_iconst C (v := 2) dL_law_387 (by decide) ?_
                    refine z_iadd C dL_law_388 ?_
                    refine z_sld CL dL_law_389 hf (fun x67 hf => ?_)
                    obtain ⟨x69, h70, g68, hf⟩ := zbind2 hf
                    refine z_callV C (MX7_letter (xl X) (xD X) (xT X) (xlo X) false hi g68) (OX7_letter g68) rfl cw_L_130 yv_X7_letter dL_law_390 rfl (by decide) ⟨Nat.zero_add _, Nat.zero_add _⟩ (Nat.le_of_ble_eq_true rfl) (st := []) rfl ?_
                    refine z_istore C dL_law_393 (by decide) (lv' := [(6, .int x69), (5, .int x64), (0, .ref bs), (1, .ref y1), (2, .ref y2), (3, .ref y3), (4, .int x10)]) rfl ?_
                    refine z_aload_n C dL_law_395 4 rfl rfl ?_
                    obtain ⟨x72, g71, hf⟩ := zbind hf
                    refine z_callV C (MX7_thrown (xl X) (xD X) (xT X) (xlo X) false hi g71) (OX7_thrown g71) rfl cw_L_109 yv_X7_thrown dL_law_396 rfl (by decide) ⟨Nat.zero_add _, Nat.zero_add _⟩ (Nat.le_of_ble_eq_true rfl) (st := []) rfl ?_
                    refine z_iload C dL_law_399 1 rfl ?_
                    refine z_icmp_eq (tgt := 406) C dL_law_401 (by decide) hf (fun hf => ?_) (fun hf => ?_)
                    · refine z_join (P := fun J => ∀ (u9 : Unit), J u9 = some r9 → zW X 7 Z (k * 5) (k * 30) false hi h70 423 [(0, .ref bs), (1, .ref y1), (2, .ref y2), (3, .ref y3), (4, .int x10)] []) hf ?_ ?_
                      · intro u9 hf
                        refine z_goto (tgt := 2049) C dL_law_423 (by decide) ?_
                        refine z_less (kc' := k * 5) (ks' := k * 30) (by omega) (by omega) ?_
                        exact kJ13 _ hf
                      · intro J73 kJ73 hf
                        refine z_iload C dL_law_406 1 rfl ?_
                        refine z_if_ne (tgt := 423) C dL_law_408 (by decide) hf (fun hf => ?_) (fun hf => ?_)
                        · refine z_less (kc' := k * 5) (ks' := k * 30) (by omega) (by omega) ?_
                          refine z_sub [2, 3, 4, 5, 6] rfl ?_
                          exact kJ73 _ hf
                        · refine z_aload_n C dL_law_411 5 rfl rfl ?_
                          refine z_iconst C (v := 0) dL_law_412 (by decide) ?_
                          refine z_laload C dL_law_413 hf (fun x74 hf => ?_)
                          refine z_iload C dL_law_414 0 rfl ?_
                          refine z_i2l C dL_law_416 ?_
                          refine z_lcmp C dL_law_417 ?_
                          refine z_if_eq (tgt := 423) C dL_law_418 (by decide) hf (fun hf => ?_) (fun hf => ?_)
                          · refine z_less (kc' := k * 5) (ks' := k * 30) (by omega) (by omega) ?_
                            refine z_sub [2, 3, 4, 5, 6] rfl ?_
                            exact kJ73 _ hf
                          · exact nomatch hf
                    · exact nomatch hf
                  · refine z_ite hf (fun c hf => ?_) (fun c6 hf => ?_)
                    · refine z_tswIn (k := 6) (off := 386) (tgt := 426) C c dL_law_40 (by decide) (by decide) ?_
                      refine z_aload_n C dL_law_426 1 rfl rfl ?_
                      refine z_aload_n C dL_law_427 0 rfl rfl ?_
                      refine z_iload C dL_law_428 4 rfl ?_
                      refine z_iconst C (v := 1) dL_law_430 (by decide) ?_
                      refine z_iadd C dL_law_431 ?_
                      refine z_sld CL dL_law_432 hf (fun x75 hf => ?_)
                      refine z_aload_n C dL_law_433 0 rfl rfl ?_
                      refine z_iload C dL_law_434 4 rfl ?_
                      refine z_iconst C (v := 2) dL_law_436 (by decide) ?_
                      refine z_iadd C dL_law_437 ?_
                      refine z_sld CL dL_law_438 hf (fun x76 hf => ?_)
                      refine z_aload_n C dL_law_439 3 rfl rfl ?_
                      obtain ⟨x78, h79, g77, hf⟩ := zbind2 hf
                      refine z_callW (kc' := k * 5 + 4) (ks' := k * 30 + 24) CL (ML_marks (xl X) CL.2.2.2.1 (xD X) (xT X) (xlo X) hi g77) cw_L_131 ys_L_marks dL_law_440 rfl (by decide) ⟨by show 1 + _ = _; omega, by show 6 + _ = _; omega⟩ (Nat.le_of_ble_eq_true rfl) (st := []) rfl ?_
                      refine z_istore C dL_law_443 (by decide) (lv' := [(5, .int x78), (0, .ref bs), (1, .ref y1), (2, .ref y2), (3, .ref y3), (4, .int x10)]) rfl ?_
                      refine z_aload_n C dL_law_445 3 rfl rfl ?_
                      refine z_aload_n C dL_law_446 1 rfl rfl ?_
                      refine z_iload C dL_law_447 5 rfl ?_
                      refine z_iconst C (v := 1) dL_law_449 (by decide) ?_
                      refine z_iadd C dL_law_450 ?_
                      refine z_sld CL dL_law_451 hf (fun x80 hf => ?_)
                      refine z_aload_n C dL_law_452 1 rfl rfl ?_
                      refine z_iload C dL_law_453 5 rfl ?_
                      refine z_iconst C (v := 2) dL_law_455 (by decide) ?_
                      refine z_iadd C dL_law_456 ?_
                      refine z_sld CL dL_law_457 hf (fun x81 hf => ?_)
                      obtain ⟨x83, h84, g82, hf⟩ := zbind2 hf
                      refine z_callV C (MX7_marks (xl X) (xD X) (xT X) (xlo X) false hi g82) (OX7_marks g82) rfl cw_L_133 yv_X7_marks dL_law_458 rfl (by decide) ⟨Nat.zero_add _, Nat.zero_add _⟩ (Nat.le_of_ble_eq_true rfl) (st := []) rfl ?_
                      refine z_istore C dL_law_461 (by decide) (lv' := [(6, .int x83), (5, .int x78), (0, .ref bs), (1, .ref y1), (2, .ref y2), (3, .ref y3), (4, .int x10)]) rfl ?_
                      refine z_aload_n C dL_law_463 4 rfl rfl ?_
                      obtain ⟨x86, g85, hf⟩ := zbind hf
                      refine z_callV C (MX7_thrown (xl X) (xD X) (xT X) (xlo X) false hi g85) (OX7_thrown g85) rfl cw_L_109 yv_X7_thrown dL_law_464 rfl (by decide) ⟨Nat.zero_add _, Nat.zero_add _⟩ (Nat.le_of_ble_eq_true rfl) (st := []) rfl ?_
                      refine z_iload C dL_law_467 1 rfl ?_
                      refine z_icmp_eq (tgt := 474) C dL_law_469 (by decide) hf (fun hf => ?_) (fun hf => ?_)
                      · refine z_join (P := fun J => ∀ (u9 : Unit), J u9 = some r9 → zW X 7 Z (k * 5) (k * 30) false hi h84 491 [(0, .ref bs), (1, .ref y1), (2, .ref y2), (3, .ref y3), (4, .int x10)] []) hf ?_ ?_
                        · intro u9 hf
                          refine z_goto (tgt := 2049) C dL_law_491 (by decide) ?_
                          refine z_less (kc' := k * 5) (ks' := k * 30) (by omega) (by omega) ?_
                          exact kJ13 _ hf
                        · intro J87 kJ87 hf
                          refine z_iload C dL_law_474 1 rfl ?_
                          refine z_if_ne (tgt := 491) C dL_law_476 (by decide) hf (fun hf => ?_) (fun hf => ?_)
                          · refine z_less (kc' := k * 5) (ks' := k * 30) (by omega) (by omega) ?_
                            refine z_sub [2, 3, 4, 5, 6] rfl ?_
                            exact kJ87 _ hf
                          · refine z_aload_n C dL_law_479 5 rfl rfl ?_
                            refine z_iconst C (v := 0) dL_law_480 (by decide) ?_
                            refine z_laload C dL_law_481 hf (fun x88 hf => ?_)
                            refine z_iload C dL_law_482 0 rfl ?_
                            refine z_i2l C dL_law_484 ?_
                            refine z_lcmp C dL_law_485 ?_
                            refine z_if_eq (tgt := 491) C dL_law_486 (by decide) hf (fun hf => ?_) (fun hf => ?_)
                            · refine z_less (kc' := k * 5) (ks' := k * 30) (by omega) (by omega) ?_
                              refine z_sub [2, 3, 4, 5, 6] rfl ?_
                              exact kJ87 _ hf
                            · exact nomatch hf
                      · exact nomatch hf
                    · refine z_ite hf (fun c hf => ?_) (fun c7 hf => ?_)
                      · refine z_tswIn (k := 7) (off := 454) (tgt := 494) C c dL_law_40 (by decide) (by decide) ?_
                        refine z_aload_n C dL_law_494 1 rfl rfl ?_
                        refine z_aload_n C dL_law_495 0 rfl rfl ?_
                        refine z_iload C dL_law_496 4 rfl ?_
                        refine z_iconst C (v := 1) dL_law_498 (by decide) ?_
                        refine z_iadd C dL_law_499 ?_
                        refine z_sld CL dL_law_500 hf (fun x89 hf => ?_)
                        refine z_aload_n C dL_law_501 0 rfl rfl ?_
                        refine z_iload C dL_law_502 4 rfl ?_
                        refine z_iconst C (v := 2) dL_law_504 (by decide) ?_
                        refine z_iadd C dL_law_505 ?_
                        refine z_sld CL dL_law_506 hf (fun x90 hf => ?_)
                        refine z_aload_n C dL_law_507 0 rfl rfl ?_
                        refine z_iload C dL_law_508 4 rfl ?_
                        refine z_iconst C (v := 3) dL_law_510 (by decide) ?_
                        refine z_iadd C dL_law_511 ?_
                        refine z_sld CL dL_law_512 hf (fun x91 hf => ?_)
                        refine z_aload_n C dL_law_513 0 rfl rfl ?_
                        refine z_iload C dL_law_514 4 rfl ?_
                        refine z_iconst C (v := 4) dL_law_516 (by decide) ?_
                        refine z_iadd C dL_law_517 ?_
                        refine z_sld CL dL_law_518 hf (fun x92 hf => ?_)
                        refine z_aload_n C dL_law_519 3 rfl rfl ?_
                        obtain ⟨x94, h95, g93, hf⟩ := zbind2 hf
                        refine z_callW (kc' := k * 5 + 3) (ks' := k * 30 + 18) CL (ML_mark (xl X) CL.2.2.2.1 (xD X) (xT X) (xlo X) hi g93) cw_L_134 ys_L_mark dL_law_520 rfl (by decide) ⟨by show 2 + _ = _; omega, by show 12 + _ = _; omega⟩ (Nat.le_of_ble_eq_true rfl) (st := []) rfl ?_
                        refine z_istore C dL_law_523 (by decide) (lv' := [(5, .int x94), (0, .ref bs), (1, .ref y1), (2, .ref y2), (3, .ref y3), (4, .int x10)]) rfl ?_
                        refine z_aload_n C dL_law_525 3 rfl rfl ?_
                        refine z_aload_n C dL_law_526 1 rfl rfl ?_
                        refine z_iload C dL_law_527 5 rfl ?_
                        refine z_iconst C (v := 1) dL_law_529 (by decide) ?_
                        refine z_iadd C dL_law_530 ?_
                        refine z_sld CL dL_law_531 hf (fun x96 hf => ?_)
                        refine z_aload_n C dL_law_532 1 rfl rfl ?_
                        refine z_iload C dL_law_533 5 rfl ?_
                        refine z_iconst C (v := 2) dL_law_535 (by decide) ?_
                        refine z_iadd C dL_law_536 ?_
                        refine z_sld CL dL_law_537 hf (fun x97 hf => ?_)
                        refine z_aload_n C dL_law_538 1 rfl rfl ?_
                        refine z_iload C dL_law_539 5 rfl ?_
                        refine z_iconst C (v := 3) dL_law_541 (by decide) ?_
                        refine z_iadd C dL_law_542 ?_
                        refine z_sld CL dL_law_543 hf (fun x98 hf => ?_)
                        refine z_aload_n C dL_law_544 1 rfl rfl ?_
                        refine z_iload C dL_law_545 5 rfl ?_
                        refine z_iconst C (v := 4) dL_law_547 (by decide) ?_
                        refine z_iadd C dL_law_548 ?_
                        refine z_sld CL dL_law_549 hf (fun x99 hf => ?_)
                        obtain ⟨x101, h102, g100, hf⟩ := zbind2 hf
                        refine z_callV C (MX7_mark (xl X) (xD X) (xT X) (xlo X) false hi g100) (OX7_mark g100) rfl cw_L_137 yv_X7_mark dL_law_550 rfl (by decide) ⟨Nat.zero_add _, Nat.zero_add _⟩ (Nat.le_of_ble_eq_true rfl) (st := []) rfl ?_
                        refine z_istore C dL_law_553 (by decide) (lv' := [(6, .int x101), (5, .int x94), (0, .ref bs), (1, .ref y1), (2, .ref y2), (3, .ref y3), (4, .int x10)]) rfl ?_
                        refine z_aload_n C dL_law_555 4 rfl rfl ?_
                        obtain ⟨x104, g103, hf⟩ := zbind hf
                        refine z_callV C (MX7_thrown (xl X) (xD X) (xT X) (xlo X) false hi g103) (OX7_thrown g103) rfl cw_L_109 yv_X7_thrown dL_law_556 rfl (by decide) ⟨Nat.zero_add _, Nat.zero_add _⟩ (Nat.le_of_ble_eq_true rfl) (st := []) rfl ?_
                        refine z_iload C dL_law_559 1 rfl ?_
                        refine z_icmp_eq (tgt := 566) C dL_law_561 (by decide) hf (fun hf => ?_) (fun hf => ?_)
                        · refine z_join (P := fun J => ∀ (u9 : Unit), J u9 = some r9 → zW X 7 Z (k * 5) (k * 30) false hi h102 583 [(0, .ref bs), (1, .ref y1), (2, .ref y2), (3, .ref y3), (4, .int x10)] []) hf ?_ ?_
                          · intro u9 hf
                            refine z_goto (tgt := 2049) C dL_law_583 (by decide) ?_
                            refine z_less (kc' := k * 5) (ks' := k * 30) (by omega) (by omega) ?_
                            exact kJ13 _ hf
                          · intro J105 kJ105 hf
                            refine z_iload C dL_law_566 1 rfl ?_
                            refine z_if_ne (tgt := 583) C dL_law_568 (by decide) hf (fun hf => ?_) (fun hf => ?_)
                            · refine z_less (kc' := k * 5) (ks' := k * 30) (by omega) (by omega) ?_
                              refine z_sub [2, 3, 4, 5, 6] rfl ?_
                              exact kJ105 _ hf
                            · refine z_aload_n C dL_law_571 5 rfl rfl ?_
                              refine z_iconst C (v := 0) dL_law_572 (by decide) ?_
                              refine z_laload C dL_law_573 hf (fun x106 hf => ?_)
                              refine z_iload C dL_law_574 0 rfl ?_
                              refine z_i2l C dL_law_576 ?_
                              refine z_lcmp C dL_law_577 ?_
                              refine z_if_eq (tgt := 583) C dL_law_578 (by decide) hf (fun hf => ?_) (fun hf => ?_)
                              · refine z_less (kc' := k * 5) (ks' := k * 30) (by omega) (by omega) ?_
                                refine z_sub [2, 3, 4, 5, 6] rfl ?_
                                exact kJ105 _ hf
                              · exact nomatch hf
                        · exact nomatch hf
                      · refine z_ite hf (fun c hf => ?_) (fun c8 hf => ?_)
                        · refine z_tswIn (k := 8) (off := 546) (tgt := 586) C c dL_law_40 (by decide) (by decide) ?_
                          refine z_aload_n C dL_law_586 1 rfl rfl ?_
                          refine z_aload_n C dL_law_587 0 rfl rfl ?_
                          refine z_iload C dL_law_588 4 rfl ?_
                          refine z_iconst C (v := 1) dL_law_590 (by decide) ?_
                          refine z_iadd C dL_law_591 ?_
                          refine z_sld CL dL_law_592 hf (fun x107 hf => ?_)
                          refine z_aload_n C dL_law_593 0 rfl rfl ?_
                          refine z_iload C dL_law_594 4 rfl ?_
                          refine z_iconst C (v := 2) dL_law_596 (by decide) ?_
                          refine z_iadd C dL_law_597 ?_
                          refine z_sld CL dL_law_598 hf (fun x108 hf => ?_)
                          refine z_aload_n C dL_law_599 3 rfl rfl ?_
                          obtain ⟨x110, h111, g109, hf⟩ := zbind2 hf
                          refine z_callW (kc' := k * 5 + 3) (ks' := k * 30 + 18) CL (ML_wordLength (xl X) CL.2.2.2.1 (xD X) (xT X) (xlo X) hi g109) cw_L_138 ys_L_wordLength dL_law_600 rfl (by decide) ⟨by show 2 + _ = _; omega, by show 12 + _ = _; omega⟩ (Nat.le_of_ble_eq_true rfl) (st := []) rfl ?_
                          refine z_istore C dL_law_603 (by decide) (lv' := [(5, .int x110), (0, .ref bs), (1, .ref y1), (2, .ref y2), (3, .ref y3), (4, .int x10)]) rfl ?_
                          refine z_aload_n C dL_law_605 3 rfl rfl ?_
                          refine z_aload_n C dL_law_606 1 rfl rfl ?_
                          refine z_iload C dL_law_607 5 rfl ?_
                          refine z_iconst C (v := 1) dL_law_609 (by decide) ?_
                          refine z_iadd C dL_law_610 ?_
                          refine z_sld CL dL_law_611 hf (fun x112 hf => ?_)
                          refine z_aload_n C dL_law_612 1 rfl rfl ?_
                          refine z_iload C dL_law_613 5 rfl ?_
                          refine z_iconst C (v := 2) dL_law_615 (by decide) ?_
                          refine z_iadd C dL_law_616 ?_
                          refine z_sld CL dL_law_617 hf (fun x113 hf => ?_)
                          obtain ⟨x115, h116, g114, hf⟩ := zbind2 hf
                          refine z_callV C (MX7_wordLength (xl X) (xD X) (xT X) (xlo X) false hi g114) (OX7_wordLength g114) rfl cw_L_140 yv_X7_wordLength dL_law_618 rfl (by decide) ⟨Nat.zero_add _, Nat.zero_add _⟩ (Nat.le_of_ble_eq_true rfl) (st := []) rfl ?_
                          refine z_istore C dL_law_621 (by decide) (lv' := [(6, .int x115), (5, .int x110), (0, .ref bs), (1, .ref y1), (2, .ref y2), (3, .ref y3), (4, .int x10)]) rfl ?_
                          refine z_aload_n C dL_law_623 4 rfl rfl ?_
                          obtain ⟨x118, g117, hf⟩ := zbind hf
                          refine z_callV C (MX7_thrown (xl X) (xD X) (xT X) (xlo X) false hi g117) (OX7_thrown g117) rfl cw_L_109 yv_X7_thrown dL_law_624 rfl (by decide) ⟨Nat.zero_add _, Nat.zero_add _⟩ (Nat.le_of_ble_eq_true rfl) (st := []) rfl ?_
                          refine z_iload C dL_law_627 1 rfl ?_
                          refine z_icmp_eq (tgt := 634) C dL_law_629 (by decide) hf (fun hf => ?_) (fun hf => ?_)
                          · refine z_join (P := fun J => ∀ (u9 : Unit), J u9 = some r9 → zW X 7 Z (k * 5) (k * 30) false hi h116 651 [(0, .ref bs), (1, .ref y1), (2, .ref y2), (3, .ref y3), (4, .int x10)] []) hf ?_ ?_
                            · intro u9 hf
                              refine z_goto (tgt := 2049) C dL_law_651 (by decide) ?_
                              refine z_less (kc' := k * 5) (ks' := k * 30) (by omega) (by omega) ?_
                              exact kJ13 _ hf
                            · intro J119 kJ119 hf
                              refine z_iload C dL_law_634 1 rfl ?_
                              refine z_if_ne (tgt := 651) C dL_law_636 (by decide) hf (fun hf => ?_) (fun hf => ?_)
                              · refine z_less (kc' := k * 5) (ks' := k * 30) (by omega) (by omega) ?_
                                refine z_sub [2, 3, 4, 5, 6] rfl ?_
                                exact kJ119 _ hf
                              · refine z_aload_n C dL_law_639 5 rfl rfl ?_
                                refine z_iconst C (v := 0) dL_law_640 (by decide) ?_
                                refine z_laload C dL_law_641 hf (fun x120 hf => ?_)
                                refine z_iload C dL_law_642 0 rfl ?_
                                refine z_i2l C dL_law_644 ?_
                                refine z_lcmp C dL_law_645 ?_
                                refine z_if_eq (tgt := 651) C dL_law_646 (by decide) hf (fun hf => ?_) (fun hf => ?_)
                                · refine z_less (kc' := k * 5) (ks' := k * 30) (by omega) (by omega) ?_
                                  refine z_sub [2, 3, 4, 5, 6] rfl ?_
                                  exact kJ119 _ hf
                                · exact nomatch hf
                          · exact nomatch hf
                        · refine z_ite hf (fun c hf => ?_) (fun c9 hf => ?_)
                          · refine z_tswIn (k := 9) (off := 614) (tgt := 654) C c dL_law_40 (by decide) (by decide) ?_
                            refine z_aload_n C dL_law_654 1 rfl rfl ?_
                            refine z_aload_n C dL_law_655 0 rfl rfl ?_
                            refine z_iload C dL_law_656 4 rfl ?_
                            refine z_iconst C (v := 1) dL_law_658 (by decide) ?_
                            refine z_iadd C dL_law_659 ?_
                            refine z_sld CL dL_law_660 hf (fun x121 hf => ?_)
                            refine z_aload_n C dL_law_661 0 rfl rfl ?_
                            refine z_iload C dL_law_662 4 rfl ?_
                            refine z_iconst C (v := 2) dL_law_664 (by decide) ?_
                            refine z_iadd C dL_law_665 ?_
                            refine z_sld CL dL_law_666 hf (fun x122 hf => ?_)
                            refine z_aload_n C dL_law_667 0 rfl rfl ?_
                            refine z_iload C dL_law_668 4 rfl ?_
                            refine z_iconst C (v := 3) dL_law_670 (by decide) ?_
                            refine z_iadd C dL_law_671 ?_
                            refine z_sld CL dL_law_672 hf (fun x123 hf => ?_)
                            refine z_aload_n C dL_law_673 3 rfl rfl ?_
                            obtain ⟨x125, h126, g124, hf⟩ := zbind2 hf
                            refine z_callW (kc' := k * 5 + 2) (ks' := k * 30 + 12) CL (ML_sign (xl X) CL.2.2.2.1 (xD X) (xT X) (xlo X) hi g124) cw_L_141 ys_L_sign dL_law_674 rfl (by decide) ⟨by show 3 + _ = _; omega, by show 18 + _ = _; omega⟩ (Nat.le_of_ble_eq_true rfl) (st := []) rfl ?_
                            refine z_istore C dL_law_677 (by decide) (lv' := [(5, .int x125), (0, .ref bs), (1, .ref y1), (2, .ref y2), (3, .ref y3), (4, .int x10)]) rfl ?_
                            refine z_aload_n C dL_law_679 3 rfl rfl ?_
                            refine z_aload_n C dL_law_680 1 rfl rfl ?_
                            refine z_iload C dL_law_681 5 rfl ?_
                            refine z_iconst C (v := 1) dL_law_683 (by decide) ?_
                            refine z_iadd C dL_law_684 ?_
                            refine z_sld CL dL_law_685 hf (fun x127 hf => ?_)
                            refine z_aload_n C dL_law_686 1 rfl rfl ?_
                            refine z_iload C dL_law_687 5 rfl ?_
                            refine z_iconst C (v := 2) dL_law_689 (by decide) ?_
                            refine z_iadd C dL_law_690 ?_
                            refine z_sld CL dL_law_691 hf (fun x128 hf => ?_)
                            refine z_aload_n C dL_law_692 1 rfl rfl ?_
                            refine z_iload C dL_law_693 5 rfl ?_
                            refine z_iconst C (v := 3) dL_law_695 (by decide) ?_
                            refine z_iadd C dL_law_696 ?_
                            refine z_sld CL dL_law_697 hf (fun x129 hf => ?_)
                            obtain ⟨x131, h132, g130, hf⟩ := zbind2 hf
                            refine z_callV C (MX7_sign (xl X) (xD X) (xT X) (xlo X) false hi g130) (OX7_sign g130) rfl cw_L_144 yv_X7_sign dL_law_698 rfl (by decide) ⟨Nat.zero_add _, Nat.zero_add _⟩ (Nat.le_of_ble_eq_true rfl) (st := []) rfl ?_
                            refine z_istore C dL_law_701 (by decide) (lv' := [(6, .int x131), (5, .int x125), (0, .ref bs), (1, .ref y1), (2, .ref y2), (3, .ref y3), (4, .int x10)]) rfl ?_
                            refine z_aload_n C dL_law_703 4 rfl rfl ?_
                            obtain ⟨x134, g133, hf⟩ := zbind hf
                            refine z_callV C (MX7_thrown (xl X) (xD X) (xT X) (xlo X) false hi g133) (OX7_thrown g133) rfl cw_L_109 yv_X7_thrown dL_law_704 rfl (by decide) ⟨Nat.zero_add _, Nat.zero_add _⟩ (Nat.le_of_ble_eq_true rfl) (st := []) rfl ?_
                            refine z_iload C dL_law_707 1 rfl ?_
                            refine z_icmp_eq (tgt := 714) C dL_law_709 (by decide) hf (fun hf => ?_) (fun hf => ?_)
                            · refine z_join (P := fun J => ∀ (u9 : Unit), J u9 = some r9 → zW X 7 Z (k * 5) (k * 30) false hi h132 731 [(0, .ref bs), (1, .ref y1), (2, .ref y2), (3, .ref y3), (4, .int x10)] []) hf ?_ ?_
                              · intro u9 hf
                                refine z_goto (tgt := 2049) C dL_law_731 (by decide) ?_
                                refine z_less (kc' := k * 5) (ks' := k * 30) (by omega) (by omega) ?_
                                exact kJ13 _ hf
                              · intro J135 kJ135 hf
                                refine z_iload C dL_law_714 1 rfl ?_
                                refine z_if_ne (tgt := 731) C dL_law_716 (by decide) hf (fun hf => ?_) (fun hf => ?_)
                                · refine z_less (kc' := k * 5) (ks' := k * 30) (by omega) (by omega) ?_
                                  refine z_sub [2, 3, 4, 5, 6] rfl ?_
                                  exact kJ135 _ hf
                                · refine z_aload_n C dL_law_719 5 rfl rfl ?_
                                  refine z_iconst C (v := 0) dL_law_720 (by decide) ?_
                                  refine z_laload C dL_law_721 hf (fun x136 hf => ?_)
                                  refine z_iload C dL_law_722 0 rfl ?_
                                  refine z_i2l C dL_law_724 ?_
                                  refine z_lcmp C dL_law_725 ?_
                                  refine z_if_eq (tgt := 731) C dL_law_726 (by decide) hf (fun hf => ?_) (fun hf => ?_)
                                  · refine z_less (kc' := k * 5) (ks' := k * 30) (by omega) (by omega) ?_
                                    refine z_sub [2, 3, 4, 5, 6] rfl ?_
                                    exact kJ135 _ hf
                                  · exact nomatch hf
                            · exact nomatch hf
                          · refine z_ite hf (fun c hf => ?_) (fun c10 hf => ?_)
                            · refine z_tswIn (k := 10) (off := 694) (tgt := 734) C c dL_law_40 (by decide) (by decide) ?_
                              refine z_aload_n C dL_law_734 1 rfl rfl ?_
                              refine z_aload_n C dL_law_735 0 rfl rfl ?_
                              refine z_iload C dL_law_736 4 rfl ?_
                              refine z_iconst C (v := 1) dL_law_738 (by decide) ?_
                              refine z_iadd C dL_law_739 ?_
                              refine z_sld CL dL_law_740 hf (fun x137 hf => ?_)
                              refine z_aload_n C dL_law_741 0 rfl rfl ?_
                              refine z_iload C dL_law_742 4 rfl ?_
                              refine z_iconst C (v := 2) dL_law_744 (by decide) ?_
                              refine z_iadd C dL_law_745 ?_
                              refine z_sld CL dL_law_746 hf (fun x138 hf => ?_)
                              refine z_aload_n C dL_law_747 0 rfl rfl ?_
                              refine z_iload C dL_law_748 4 rfl ?_
                              refine z_iconst C (v := 3) dL_law_750 (by decide) ?_
                              refine z_iadd C dL_law_751 ?_
                              refine z_sld CL dL_law_752 hf (fun x139 hf => ?_)
                              refine z_aload_n C dL_law_753 3 rfl rfl ?_
                              obtain ⟨x141, h142, g140, hf⟩ := zbind2 hf
                              refine z_callW (kc' := k * 5 + 3) (ks' := k * 30 + 18) CL (ML_wordAt (xl X) CL.2.2.2.1 (xD X) (xT X) (xlo X) hi g140) cw_L_145 ys_L_wordAt dL_law_754 rfl (by decide) ⟨by show 2 + _ = _; omega, by show 12 + _ = _; omega⟩ (Nat.le_of_ble_eq_true rfl) (st := []) rfl ?_
                              refine z_istore C dL_law_757 (by decide) (lv' := [(5, .int x141), (0, .ref bs), (1, .ref y1), (2, .ref y2), (3, .ref y3), (4, .int x10)]) rfl ?_
                              refine z_aload_n C dL_law_759 3 rfl rfl ?_
                              refine z_aload_n C dL_law_760 1 rfl rfl ?_
                              refine z_iload C dL_law_761 5 rfl ?_
                              refine z_iconst C (v := 1) dL_law_763 (by decide) ?_
                              refine z_iadd C dL_law_764 ?_
                              refine z_sld CL dL_law_765 hf (fun x143 hf => ?_)
                              refine z_aload_n C dL_law_766 1 rfl rfl ?_
                              refine z_iload C dL_law_767 5 rfl ?_
                              refine z_iconst C (v := 2) dL_law_769 (by decide) ?_
                              refine z_iadd C dL_law_770 ?_
                              refine z_sld CL dL_law_771 hf (fun x144 hf => ?_)
                              refine z_aload_n C dL_law_772 1 rfl rfl ?_
                              refine z_iload C dL_law_773 5 rfl ?_
                              refine z_iconst C (v := 3) dL_law_775 (by decide) ?_
                              refine z_iadd C dL_law_776 ?_
                              refine z_sld CL dL_law_777 hf (fun x145 hf => ?_)
                              obtain ⟨x147, h148, g146, hf⟩ := zbind2 hf
                              refine z_callV C (MX7_wordAt (xl X) (xD X) (xT X) (xlo X) false hi g146) (OX7_wordAt g146) rfl cw_L_147 yv_X7_wordAt dL_law_778 rfl (by decide) ⟨Nat.zero_add _, Nat.zero_add _⟩ (Nat.le_of_ble_eq_true rfl) (st := []) rfl ?_
                              refine z_istore C dL_law_781 (by decide) (lv' := [(6, .int x147), (5, .int x141), (0, .ref bs), (1, .ref y1), (2, .ref y2), (3, .ref y3), (4, .int x10)]) rfl ?_
                              refine z_aload_n C dL_law_783 4 rfl rfl ?_
                              obtain ⟨x150, g149, hf⟩ := zbind hf
                              refine z_callV C (MX7_thrown (xl X) (xD X) (xT X) (xlo X) false hi g149) (OX7_thrown g149) rfl cw_L_109 yv_X7_thrown dL_law_784 rfl (by decide) ⟨Nat.zero_add _, Nat.zero_add _⟩ (Nat.le_of_ble_eq_true rfl) (st := []) rfl ?_
                              refine z_iload C dL_law_787 1 rfl ?_
                              refine z_icmp_eq (tgt := 794) C dL_law_789 (by decide) hf (fun hf => ?_) (fun hf => ?_)
                              · refine z_join (P := fun J => ∀ (u9 : Unit), J u9 = some r9 → zW X 7 Z (k * 5) (k * 30) false hi h148 811 [(0, .ref bs), (1, .ref y1), (2, .ref y2), (3, .ref y3), (4, .int x10)] []) hf ?_ ?_
                                · intro u9 hf
                                  refine z_goto (tgt := 2049) C dL_law_811 (by decide) ?_
                                  refine z_less (kc' := k * 5) (ks' := k * 30) (by omega) (by omega) ?_
                                  exact kJ13 _ hf
                                · intro J151 kJ151 hf
                                  refine z_iload C dL_law_794 1 rfl ?_
                                  refine z_if_ne (tgt := 811) C dL_law_796 (by decide) hf (fun hf => ?_) (fun hf => ?_)
                                  · refine z_less (kc' := k * 5) (ks' := k * 30) (by omega) (by omega) ?_
                                    refine z_sub [2, 3, 4, 5, 6] rfl ?_
                                    exact kJ151 _ hf
                                  · refine z_aload_n C dL_law_799 5 rfl rfl ?_
                                    refine z_iconst C (v := 0) dL_law_800 (by decide) ?_
                                    refine z_laload C dL_law_801 hf (fun x152 hf => ?_)
                                    refine z_iload C dL_law_802 0 rfl ?_
                                    refine z_i2l C dL_law_804 ?_
                                    refine z_lcmp C dL_law_805 ?_
                                    refine z_if_eq (tgt := 811) C dL_law_806 (by decide) hf (fun hf => ?_) (fun hf => ?_)
                                    · refine z_less (kc' := k * 5) (ks' := k * 30) (by omega) (by omega) ?_
                                      refine z_sub [2, 3, 4, 5, 6] rfl ?_
                                      exact kJ151 _ hf
                                    · exact nomatch hf
                              · exact nomatch hf
                            · refine z_ite hf (fun c hf => ?_) (fun c11 hf => ?_)
                              · refine z_tswIn (k := 11) (off := 774) (tgt := 814) C c dL_law_40 (by decide) (by decide) ?_
                                refine z_aload_n C dL_law_814 1 rfl rfl ?_
                                refine z_aload_n C dL_law_815 0 rfl rfl ?_
                                refine z_iload C dL_law_816 4 rfl ?_
                                refine z_iconst C (v := 1) dL_law_818 (by decide) ?_
                                refine z_iadd C dL_law_819 ?_
                                refine z_sld CL dL_law_820 hf (fun x153 hf => ?_)
                                refine z_aload_n C dL_law_821 0 rfl rfl ?_
                                refine z_iload C dL_law_822 4 rfl ?_
                                refine z_iconst C (v := 2) dL_law_824 (by decide) ?_
                                refine z_iadd C dL_law_825 ?_
                                refine z_sld CL dL_law_826 hf (fun x154 hf => ?_)
                                refine z_aload_n C dL_law_827 0 rfl rfl ?_
                                refine z_iload C dL_law_828 4 rfl ?_
                                refine z_iconst C (v := 3) dL_law_830 (by decide) ?_
                                refine z_iadd C dL_law_831 ?_
                                refine z_sld CL dL_law_832 hf (fun x155 hf => ?_)
                                refine z_aload_n C dL_law_833 0 rfl rfl ?_
                                refine z_iload C dL_law_834 4 rfl ?_
                                refine z_iconst C (v := 4) dL_law_836 (by decide) ?_
                                refine z_iadd C dL_law_837 ?_
                                refine z_sld CL dL_law_838 hf (fun x156 hf => ?_)
                                refine z_aload_n C dL_law_839 0 rfl rfl ?_
                                refine z_iload C dL_law_840 4 rfl ?_
                                refine z_iconst C (v := 5) dL_law_842 (by decide) ?_
                                refine z_iadd C dL_law_843 ?_
                                refine z_sld CL dL_law_844 hf (fun x157 hf => ?_)
                                refine z_aload_n C dL_law_845 3 rfl rfl ?_
                                obtain ⟨x159, h160, g158, hf⟩ := zbind2 hf
                                refine z_callW (kc' := k * 5 + 0) (ks' := k * 30 + 0) CL (ML_write (xl X) CL.2.2.2.1 (xD X) (xT X) (xlo X) hi g158) cw_L_148 ys_L_write dL_law_846 rfl (by decide) ⟨by show 5 + _ = _; omega, by show 30 + _ = _; omega⟩ (Nat.le_of_ble_eq_true rfl) (st := []) rfl ?_
                                refine z_istore C dL_law_849 (by decide) (lv' := [(5, .int x159), (0, .ref bs), (1, .ref y1), (2, .ref y2), (3, .ref y3), (4, .int x10)]) rfl ?_
                                refine z_aload_n C dL_law_851 3 rfl rfl ?_
                                refine z_aload_n C dL_law_852 1 rfl rfl ?_
                                refine z_iload C dL_law_853 5 rfl ?_
                                refine z_iconst C (v := 1) dL_law_855 (by decide) ?_
                                refine z_iadd C dL_law_856 ?_
                                refine z_sld CL dL_law_857 hf (fun x161 hf => ?_)
                                refine z_aload_n C dL_law_858 1 rfl rfl ?_
                                refine z_iload C dL_law_859 5 rfl ?_
                                refine z_iconst C (v := 2) dL_law_861 (by decide) ?_
                                refine z_iadd C dL_law_862 ?_
                                refine z_sld CL dL_law_863 hf (fun x162 hf => ?_)
                                refine z_aload_n C dL_law_864 1 rfl rfl ?_
                                refine z_iload C dL_law_865 5 rfl ?_
                                refine z_iconst C (v := 3) dL_law_867 (by decide) ?_
                                refine z_iadd C dL_law_868 ?_
                                refine z_sld CL dL_law_869 hf (fun x163 hf => ?_)
                                refine z_aload_n C dL_law_870 1 rfl rfl ?_
                                refine z_iload C dL_law_871 5 rfl ?_
                                refine z_iconst C (v := 4) dL_law_873 (by decide) ?_
                                refine z_iadd C dL_law_874 ?_
                                refine z_sld CL dL_law_875 hf (fun x164 hf => ?_)
                                refine z_aload_n C dL_law_876 1 rfl rfl ?_
                                refine z_iload C dL_law_877 5 rfl ?_
                                refine z_iconst C (v := 5) dL_law_879 (by decide) ?_
                                refine z_iadd C dL_law_880 ?_
                                refine z_sld CL dL_law_881 hf (fun x165 hf => ?_)
                                obtain ⟨x167, h168, g166, hf⟩ := zbind2 hf
                                refine z_callV C (MX7_write (xl X) (xD X) (xT X) (xlo X) false hi g166) (OX7_write g166) rfl cw_L_151 yv_X7_write dL_law_882 rfl (by decide) ⟨Nat.zero_add _, Nat.zero_add _⟩ (Nat.le_of_ble_eq_true rfl) (st := []) rfl ?_
                                refine z_istore C dL_law_885 (by decide) (lv' := [(6, .int x167), (5, .int x159), (0, .ref bs), (1, .ref y1), (2, .ref y2), (3, .ref y3), (4, .int x10)]) rfl ?_
                                refine z_aload_n C dL_law_887 4 rfl rfl ?_
                                obtain ⟨x170, g169, hf⟩ := zbind hf
                                refine z_callV C (MX7_thrown (xl X) (xD X) (xT X) (xlo X) false hi g169) (OX7_thrown g169) rfl cw_L_109 yv_X7_thrown dL_law_888 rfl (by decide) ⟨Nat.zero_add _, Nat.zero_add _⟩ (Nat.le_of_ble_eq_true rfl) (st := []) rfl ?_
                                refine z_iload C dL_law_891 1 rfl ?_
                                refine z_icmp_eq (tgt := 898) C dL_law_893 (by decide) hf (fun hf => ?_) (fun hf => ?_)
                                · refine z_join (P := fun J => ∀ (u9 : Unit), J u9 = some r9 → zW X 7 Z (k * 5) (k * 30) false hi h168 915 [(0, .ref bs), (1, .ref y1), (2, .ref y2), (3, .ref y3), (4, .int x10)] []) hf ?_ ?_
                                  · intro u9 hf
                                    refine z_goto (tgt := 2049) C dL_law_915 (by decide) ?_
                                    refine z_less (kc' := k * 5) (ks' := k * 30) (by omega) (by omega) ?_
                                    exact kJ13 _ hf
                                  · intro J171 kJ171 hf
                                    refine z_iload C dL_law_898 1 rfl ?_
                                    refine z_if_ne (tgt := 915) C dL_law_900 (by decide) hf (fun hf => ?_) (fun hf => ?_)
                                    · refine z_less (kc' := k * 5) (ks' := k * 30) (by omega) (by omega) ?_
                                      refine z_sub [2, 3, 4, 5, 6] rfl ?_
                                      exact kJ171 _ hf
                                    · refine z_aload_n C dL_law_903 5 rfl rfl ?_
                                      refine z_iconst C (v := 0) dL_law_904 (by decide) ?_
                                      refine z_laload C dL_law_905 hf (fun x172 hf => ?_)
                                      refine z_iload C dL_law_906 0 rfl ?_
                                      refine z_i2l C dL_law_908 ?_
                                      refine z_lcmp C dL_law_909 ?_
                                      refine z_if_eq (tgt := 915) C dL_law_910 (by decide) hf (fun hf => ?_) (fun hf => ?_)
                                      · refine z_less (kc' := k * 5) (ks' := k * 30) (by omega) (by omega) ?_
                                        refine z_sub [2, 3, 4, 5, 6] rfl ?_
                                        exact kJ171 _ hf
                                      · exact nomatch hf
                                · exact nomatch hf
                              · refine z_ite hf (fun c hf => ?_) (fun c12 hf => ?_)
                                · refine z_tswIn (k := 12) (off := 878) (tgt := 918) C c dL_law_40 (by decide) (by decide) ?_
                                  refine z_aload_n C dL_law_918 1 rfl rfl ?_
                                  refine z_aload_n C dL_law_919 0 rfl rfl ?_
                                  refine z_iload C dL_law_920 4 rfl ?_
                                  refine z_iconst C (v := 1) dL_law_922 (by decide) ?_
                                  refine z_iadd C dL_law_923 ?_
                                  refine z_sld CL dL_law_924 hf (fun x173 hf => ?_)
                                  refine z_aload_n C dL_law_925 0 rfl rfl ?_
                                  refine z_iload C dL_law_926 4 rfl ?_
                                  refine z_iconst C (v := 2) dL_law_928 (by decide) ?_
                                  refine z_iadd C dL_law_929 ?_
                                  refine z_sld CL dL_law_930 hf (fun x174 hf => ?_)
                                  refine z_aload_n C dL_law_931 0 rfl rfl ?_
                                  refine z_iload C dL_law_932 4 rfl ?_
                                  refine z_iconst C (v := 3) dL_law_934 (by decide) ?_
                                  refine z_iadd C dL_law_935 ?_
                                  refine z_sld CL dL_law_936 hf (fun x175 hf => ?_)
                                  refine z_aload_n C dL_law_937 3 rfl rfl ?_
                                  obtain ⟨x177, h178, g176, hf⟩ := zbind2 hf
                                  refine z_callW (kc' := k * 5 + 4) (ks' := k * 30 + 24) CL (ML_erase (xl X) CL.2.2.2.1 (xD X) (xT X) (xlo X) hi g176) cw_L_152 ys_L_erase dL_law_938 rfl (by decide) ⟨by show 1 + _ = _; omega, by show 6 + _ = _; omega⟩ (Nat.le_of_ble_eq_true rfl) (st := []) rfl ?_
                                  refine z_istore C dL_law_941 (by decide) (lv' := [(5, .int x177), (0, .ref bs), (1, .ref y1), (2, .ref y2), (3, .ref y3), (4, .int x10)]) rfl ?_
                                  refine z_aload_n C dL_law_943 3 rfl rfl ?_
                                  refine z_aload_n C dL_law_944 1 rfl rfl ?_
                                  refine z_iload C dL_law_945 5 rfl ?_
                                  refine z_iconst C (v := 1) dL_law_947 (by decide) ?_
                                  refine z_iadd C dL_law_948 ?_
                                  refine z_sld CL dL_law_949 hf (fun x179 hf => ?_)
                                  refine z_aload_n C dL_law_950 1 rfl rfl ?_
                                  refine z_iload C dL_law_951 5 rfl ?_
                                  refine z_iconst C (v := 2) dL_law_953 (by decide) ?_
                                  refine z_iadd C dL_law_954 ?_
                                  refine z_sld CL dL_law_955 hf (fun x180 hf => ?_)
                                  refine z_aload_n C dL_law_956 1 rfl rfl ?_
                                  refine z_iload C dL_law_957 5 rfl ?_
                                  refine z_iconst C (v := 3) dL_law_959 (by decide) ?_
                                  refine z_iadd C dL_law_960 ?_
                                  refine z_sld CL dL_law_961 hf (fun x181 hf => ?_)
                                  obtain ⟨x183, h184, g182, hf⟩ := zbind2 hf
                                  refine z_callV C (MX7_erase (xl X) (xD X) (xT X) (xlo X) false hi g182) (OX7_erase g182) rfl cw_L_154 yv_X7_erase dL_law_962 rfl (by decide) ⟨Nat.zero_add _, Nat.zero_add _⟩ (Nat.le_of_ble_eq_true rfl) (st := []) rfl ?_
                                  refine z_istore C dL_law_965 (by decide) (lv' := [(6, .int x183), (5, .int x177), (0, .ref bs), (1, .ref y1), (2, .ref y2), (3, .ref y3), (4, .int x10)]) rfl ?_
                                  refine z_aload_n C dL_law_967 4 rfl rfl ?_
                                  obtain ⟨x186, g185, hf⟩ := zbind hf
                                  refine z_callV C (MX7_thrown (xl X) (xD X) (xT X) (xlo X) false hi g185) (OX7_thrown g185) rfl cw_L_109 yv_X7_thrown dL_law_968 rfl (by decide) ⟨Nat.zero_add _, Nat.zero_add _⟩ (Nat.le_of_ble_eq_true rfl) (st := []) rfl ?_
                                  refine z_iload C dL_law_971 1 rfl ?_
                                  refine z_icmp_eq (tgt := 978) C dL_law_973 (by decide) hf (fun hf => ?_) (fun hf => ?_)
                                  · refine z_join (P := fun J => ∀ (u9 : Unit), J u9 = some r9 → zW X 7 Z (k * 5) (k * 30) false hi h184 995 [(0, .ref bs), (1, .ref y1), (2, .ref y2), (3, .ref y3), (4, .int x10)] []) hf ?_ ?_
                                    · intro u9 hf
                                      refine z_goto (tgt := 2049) C dL_law_995 (by decide) ?_
                                      refine z_less (kc' := k * 5) (ks' := k * 30) (by omega) (by omega) ?_
                                      exact kJ13 _ hf
                                    · intro J187 kJ187 hf
                                      refine z_iload C dL_law_978 1 rfl ?_
                                      refine z_if_ne (tgt := 995) C dL_law_980 (by decide) hf (fun hf => ?_) (fun hf => ?_)
                                      · refine z_less (kc' := k * 5) (ks' := k * 30) (by omega) (by omega) ?_
                                        refine z_sub [2, 3, 4, 5, 6] rfl ?_
                                        exact kJ187 _ hf
                                      · refine z_aload_n C dL_law_983 5 rfl rfl ?_
                                        refine z_iconst C (v := 0) dL_law_984 (by decide) ?_
                                        refine z_laload C dL_law_985 hf (fun x188 hf => ?_)
                                        refine z_iload C dL_law_986 0 rfl ?_
                                        refine z_i2l C dL_law_988 ?_
                                        refine z_lcmp C dL_law_989 ?_
                                        refine z_if_eq (tgt := 995) C dL_law_990 (by decide) hf (fun hf => ?_) (fun hf => ?_)
                                        · refine z_less (kc' := k * 5) (ks' := k * 30) (by omega) (by omega) ?_
                                          refine z_sub [2, 3, 4, 5, 6] rfl ?_
                                          exact kJ187 _ hf
                                        · exact nomatch hf
                                  · exact nomatch hf
                                · refine z_ite hf (fun c hf => ?_) (fun c13 hf => ?_)
                                  · refine z_tswIn (k := 13) (off := 958) (tgt := 998) C c dL_law_40 (by decide) (by decide) ?_
                                    refine z_aload_n C dL_law_998 1 rfl rfl ?_
                                    refine z_aload_n C dL_law_999 0 rfl rfl ?_
                                    refine z_iload C dL_law_1000 4 rfl ?_
                                    refine z_iconst C (v := 1) dL_law_1002 (by decide) ?_
                                    refine z_iadd C dL_law_1003 ?_
                                    refine z_sld CL dL_law_1004 hf (fun x189 hf => ?_)
                                    refine z_aload_n C dL_law_1005 0 rfl rfl ?_
                                    refine z_iload C dL_law_1006 4 rfl ?_
                                    refine z_iconst C (v := 2) dL_law_1008 (by decide) ?_
                                    refine z_iadd C dL_law_1009 ?_
                                    refine z_sld CL dL_law_1010 hf (fun x190 hf => ?_)
                                    refine z_aload_n C dL_law_1011 0 rfl rfl ?_
                                    refine z_iload C dL_law_1012 4 rfl ?_
                                    refine z_iconst C (v := 3) dL_law_1014 (by decide) ?_
                                    refine z_iadd C dL_law_1015 ?_
                                    refine z_sld CL dL_law_1016 hf (fun x191 hf => ?_)
                                    refine z_aload_n C dL_law_1017 0 rfl rfl ?_
                                    refine z_iload C dL_law_1018 4 rfl ?_
                                    refine z_iconst C (v := 4) dL_law_1020 (by decide) ?_
                                    refine z_iadd C dL_law_1021 ?_
                                    refine z_sld CL dL_law_1022 hf (fun x192 hf => ?_)
                                    refine z_aload_n C dL_law_1023 3 rfl rfl ?_
                                    obtain ⟨x194, h195, g193, hf⟩ := zbind2 hf
                                    refine z_callW (kc' := k * 5 + 2) (ks' := k * 30 + 12) CL (ML_decide (xl X) CL.2.2.2.1 (xD X) (xT X) (xlo X) hi g193) cw_L_155 ys_L_decide dL_law_1024 rfl (by decide) ⟨by show 3 + _ = _; omega, by show 18 + _ = _; omega⟩ (Nat.le_of_ble_eq_true rfl) (st := []) rfl ?_
                                    refine z_istore C dL_law_1027 (by decide) (lv' := [(5, .int x194), (0, .ref bs), (1, .ref y1), (2, .ref y2), (3, .ref y3), (4, .int x10)]) rfl ?_
                                    refine z_aload_n C dL_law_1029 3 rfl rfl ?_
                                    refine z_aload_n C dL_law_1030 1 rfl rfl ?_
                                    refine z_iload C dL_law_1031 5 rfl ?_
                                    refine z_iconst C (v := 1) dL_law_1033 (by decide) ?_
                                    refine z_iadd C dL_law_1034 ?_
                                    refine z_sld CL dL_law_1035 hf (fun x196 hf => ?_)
                                    refine z_aload_n C dL_law_1036 1 rfl rfl ?_
                                    refine z_iload C dL_law_1037 5 rfl ?_
                                    refine z_iconst C (v := 2) dL_law_1039 (by decide) ?_
                                    refine z_iadd C dL_law_1040 ?_
                                    refine z_sld CL dL_law_1041 hf (fun x197 hf => ?_)
                                    refine z_aload_n C dL_law_1042 1 rfl rfl ?_
                                    refine z_iload C dL_law_1043 5 rfl ?_
                                    refine z_iconst C (v := 3) dL_law_1045 (by decide) ?_
                                    refine z_iadd C dL_law_1046 ?_
                                    refine z_sld CL dL_law_1047 hf (fun x198 hf => ?_)
                                    refine z_aload_n C dL_law_1048 1 rfl rfl ?_
                                    refine z_iload C dL_law_1049 5 rfl ?_
                                    refine z_iconst C (v := 4) dL_law_1051 (by decide) ?_
                                    refine z_iadd C dL_law_1052 ?_
                                    refine z_sld CL dL_law_1053 hf (fun x199 hf => ?_)
                                    obtain ⟨x201, h202, g200, hf⟩ := zbind2 hf
                                    refine z_callV C (MX7_decide (xl X) (xD X) (xT X) (xlo X) false hi g200) (OX7_decide g200) rfl cw_L_157 yv_X7_decide dL_law_1054 rfl (by decide) ⟨Nat.zero_add _, Nat.zero_add _⟩ (Nat.le_of_ble_eq_true rfl) (st := []) rfl ?_
                                    refine z_istore C dL_law_1057 (by decide) (lv' := [(6, .int x201), (5, .int x194), (0, .ref bs), (1, .ref y1), (2, .ref y2), (3, .ref y3), (4, .int x10)]) rfl ?_
                                    refine z_aload_n C dL_law_1059 4 rfl rfl ?_
                                    obtain ⟨x204, g203, hf⟩ := zbind hf
                                    refine z_callV C (MX7_thrown (xl X) (xD X) (xT X) (xlo X) false hi g203) (OX7_thrown g203) rfl cw_L_109 yv_X7_thrown dL_law_1060 rfl (by decide) ⟨Nat.zero_add _, Nat.zero_add _⟩ (Nat.le_of_ble_eq_true rfl) (st := []) rfl ?_
                                    refine z_iload C dL_law_1063 1 rfl ?_
                                    refine z_icmp_eq (tgt := 1070) C dL_law_1065 (by decide) hf (fun hf => ?_) (fun hf => ?_)
                                    · refine z_join (P := fun J => ∀ (u9 : Unit), J u9 = some r9 → zW X 7 Z (k * 5) (k * 30) false hi h202 1087 [(0, .ref bs), (1, .ref y1), (2, .ref y2), (3, .ref y3), (4, .int x10)] []) hf ?_ ?_
                                      · intro u9 hf
                                        refine z_goto (tgt := 2049) C dL_law_1087 (by decide) ?_
                                        refine z_less (kc' := k * 5) (ks' := k * 30) (by omega) (by omega) ?_
                                        exact kJ13 _ hf
                                      · intro J205 kJ205 hf
                                        refine z_iload C dL_law_1070 1 rfl ?_
                                        refine z_if_ne (tgt := 1087) C dL_law_1072 (by decide) hf (fun hf => ?_) (fun hf => ?_)
                                        · refine z_less (kc' := k * 5) (ks' := k * 30) (by omega) (by omega) ?_
                                          refine z_sub [2, 3, 4, 5, 6] rfl ?_
                                          exact kJ205 _ hf
                                        · refine z_aload_n C dL_law_1075 5 rfl rfl ?_
                                          refine z_iconst C (v := 0) dL_law_1076 (by decide) ?_
                                          refine z_laload C dL_law_1077 hf (fun x206 hf => ?_)
                                          refine z_iload C dL_law_1078 0 rfl ?_
                                          refine z_i2l C dL_law_1080 ?_
                                          refine z_lcmp C dL_law_1081 ?_
                                          refine z_if_eq (tgt := 1087) C dL_law_1082 (by decide) hf (fun hf => ?_) (fun hf => ?_)
                                          · refine z_less (kc' := k * 5) (ks' := k * 30) (by omega) (by omega) ?_
                                            refine z_sub [2, 3, 4, 5, 6] rfl ?_
                                            exact kJ205 _ hf
                                          · exact nomatch hf
                                    · exact nomatch hf
                                  · refine z_ite hf (fun c hf => ?_) (fun c14 hf => ?_)
                                    · refine z_tswIn (k := 14) (off := 1050) (tgt := 1090) C c dL_law_40 (by decide) (by decide) ?_
                                      refine z_aload_n C dL_law_1090 1 rfl rfl ?_
                                      refine z_aload_n C dL_law_1091 0 rfl rfl ?_
                                      refine z_iload C dL_law_1092 4 rfl ?_
                                      refine z_iconst C (v := 1) dL_law_1094 (by decide) ?_
                                      refine z_iadd C dL_law_1095 ?_
                                      refine z_sld CL dL_law_1096 hf (fun x207 hf => ?_)
                                      refine z_aload_n C dL_law_1097 0 rfl rfl ?_
                                      refine z_iload C dL_law_1098 4 rfl ?_
                                      refine z_iconst C (v := 2) dL_law_1100 (by decide) ?_
                                      refine z_iadd C dL_law_1101 ?_
                                      refine z_sld CL dL_law_1102 hf (fun x208 hf => ?_)
                                      refine z_aload_n C dL_law_1103 0 rfl rfl ?_
                                      refine z_iload C dL_law_1104 4 rfl ?_
                                      refine z_iconst C (v := 3) dL_law_1106 (by decide) ?_
                                      refine z_iadd C dL_law_1107 ?_
                                      refine z_sld CL dL_law_1108 hf (fun x209 hf => ?_)
                                      refine z_aload_n C dL_law_1109 0 rfl rfl ?_
                                      refine z_iload C dL_law_1110 4 rfl ?_
                                      refine z_iconst C (v := 4) dL_law_1112 (by decide) ?_
                                      refine z_iadd C dL_law_1113 ?_
                                      refine z_sld CL dL_law_1114 hf (fun x210 hf => ?_)
                                      refine z_aload_n C dL_law_1115 3 rfl rfl ?_
                                      obtain ⟨x212, h213, g211, hf⟩ := zbind2 hf
                                      refine z_callW (kc' := k * 5 + 1) (ks' := k * 30 + 6) CL (ML_setLetter (xl X) CL.2.2.2.1 (xD X) (xT X) (xlo X) hi g211) cw_L_158 ys_L_setLetter dL_law_1116 rfl (by decide) ⟨by show 4 + _ = _; omega, by show 24 + _ = _; omega⟩ (Nat.le_of_ble_eq_true rfl) (st := []) rfl ?_
                                      refine z_istore C dL_law_1119 (by decide) (lv' := [(5, .int x212), (0, .ref bs), (1, .ref y1), (2, .ref y2), (3, .ref y3), (4, .int x10)]) rfl ?_
                                      refine z_aload_n C dL_law_1121 3 rfl rfl ?_
                                      refine z_aload_n C dL_law_1122 1 rfl rfl ?_
                                      refine z_iload C dL_law_1123 5 rfl ?_
                                      refine z_iconst C (v := 1) dL_law_1125 (by decide) ?_
                                      refine z_iadd C dL_law_1126 ?_
                                      refine z_sld CL dL_law_1127 hf (fun x214 hf => ?_)
                                      refine z_aload_n C dL_law_1128 1 rfl rfl ?_
                                      refine z_iload C dL_law_1129 5 rfl ?_
                                      refine z_iconst C (v := 2) dL_law_1131 (by decide) ?_
                                      refine z_iadd C dL_law_1132 ?_
                                      refine z_sld CL dL_law_1133 hf (fun x215 hf => ?_)
                                      refine z_aload_n C dL_law_1134 1 rfl rfl ?_
                                      refine z_iload C dL_law_1135 5 rfl ?_
                                      refine z_iconst C (v := 3) dL_law_1137 (by decide) ?_
                                      refine z_iadd C dL_law_1138 ?_
                                      refine z_sld CL dL_law_1139 hf (fun x216 hf => ?_)
                                      refine z_aload_n C dL_law_1140 1 rfl rfl ?_
                                      refine z_iload C dL_law_1141 5 rfl ?_
                                      refine z_iconst C (v := 4) dL_law_1143 (by decide) ?_
                                      refine z_iadd C dL_law_1144 ?_
                                      refine z_sld CL dL_law_1145 hf (fun x217 hf => ?_)
                                      obtain ⟨x219, h220, g218, hf⟩ := zbind2 hf
                                      refine z_callV C (MX7_setLetter (xl X) (xD X) (xT X) (xlo X) false hi g218) (OX7_setLetter g218) rfl cw_L_160 yv_X7_setLetter dL_law_1146 rfl (by decide) ⟨Nat.zero_add _, Nat.zero_add _⟩ (Nat.le_of_ble_eq_true rfl) (st := []) rfl ?_
                                      refine z_istore C dL_law_1149 (by decide) (lv' := [(6, .int x219), (5, .int x212), (0, .ref bs), (1, .ref y1), (2, .ref y2), (3, .ref y3), (4, .int x10)]) rfl ?_
                                      refine z_aload_n C dL_law_1151 4 rfl rfl ?_
                                      obtain ⟨x222, g221, hf⟩ := zbind hf
                                      refine z_callV C (MX7_thrown (xl X) (xD X) (xT X) (xlo X) false hi g221) (OX7_thrown g221) rfl cw_L_109 yv_X7_thrown dL_law_1152 rfl (by decide) ⟨Nat.zero_add _, Nat.zero_add _⟩ (Nat.le_of_ble_eq_true rfl) (st := []) rfl ?_
                                      refine z_iload C dL_law_1155 1 rfl ?_
                                      refine z_icmp_eq (tgt := 1162) C dL_law_1157 (by decide) hf (fun hf => ?_) (fun hf => ?_)
                                      · refine z_join (P := fun J => ∀ (u9 : Unit), J u9 = some r9 → zW X 7 Z (k * 5) (k * 30) false hi h220 1179 [(0, .ref bs), (1, .ref y1), (2, .ref y2), (3, .ref y3), (4, .int x10)] []) hf ?_ ?_
                                        · intro u9 hf
                                          refine z_goto (tgt := 2049) C dL_law_1179 (by decide) ?_
                                          refine z_less (kc' := k * 5) (ks' := k * 30) (by omega) (by omega) ?_
                                          exact kJ13 _ hf
                                        · intro J223 kJ223 hf
                                          refine z_iload C dL_law_1162 1 rfl ?_
                                          refine z_if_ne (tgt := 1179) C dL_law_1164 (by decide) hf (fun hf => ?_) (fun hf => ?_)
                                          · refine z_less (kc' := k * 5) (ks' := k * 30) (by omega) (by omega) ?_
                                            refine z_sub [2, 3, 4, 5, 6] rfl ?_
                                            exact kJ223 _ hf
                                          · refine z_aload_n C dL_law_1167 5 rfl rfl ?_
                                            refine z_iconst C (v := 0) dL_law_1168 (by decide) ?_
                                            refine z_laload C dL_law_1169 hf (fun x224 hf => ?_)
                                            refine z_iload C dL_law_1170 0 rfl ?_
                                            refine z_i2l C dL_law_1172 ?_
                                            refine z_lcmp C dL_law_1173 ?_
                                            refine z_if_eq (tgt := 1179) C dL_law_1174 (by decide) hf (fun hf => ?_) (fun hf => ?_)
                                            · refine z_less (kc' := k * 5) (ks' := k * 30) (by omega) (by omega) ?_
                                              refine z_sub [2, 3, 4, 5, 6] rfl ?_
                                              exact kJ223 _ hf
                                            · exact nomatch hf
                                      · exact nomatch hf
                                    · refine z_ite hf (fun c hf => ?_) (fun c15 hf => ?_)
                                      · refine z_tswIn (k := 15) (off := 1142) (tgt := 1182) C c dL_law_40 (by decide) (by decide) ?_
                                        refine z_aload_n C dL_law_1182 1 rfl rfl ?_
                                        refine z_aload_n C dL_law_1183 0 rfl rfl ?_
                                        refine z_iload C dL_law_1184 4 rfl ?_
                                        refine z_iconst C (v := 1) dL_law_1186 (by decide) ?_
                                        refine z_iadd C dL_law_1187 ?_
                                        refine z_sld CL dL_law_1188 hf (fun x225 hf => ?_)
                                        refine z_aload_n C dL_law_1189 3 rfl rfl ?_
                                        obtain ⟨x227, h228, g226, hf⟩ := zbind2 hf
                                        refine z_callW (kc' := k * 5 + 4) (ks' := k * 30 + 24) CL (ML_setMargin (xl X) CL.2.2.2.1 (xD X) (xT X) (xlo X) hi g226) cw_L_161 ys_L_setMargin dL_law_1190 rfl (by decide) ⟨by show 1 + _ = _; omega, by show 6 + _ = _; omega⟩ (Nat.le_of_ble_eq_true rfl) (st := []) rfl ?_
                                        refine z_istore C dL_law_1193 (by decide) (lv' := [(5, .int x227), (0, .ref bs), (1, .ref y1), (2, .ref y2), (3, .ref y3), (4, .int x10)]) rfl ?_
                                        refine z_aload_n C dL_law_1195 3 rfl rfl ?_
                                        refine z_aload_n C dL_law_1196 1 rfl rfl ?_
                                        refine z_iload C dL_law_1197 5 rfl ?_
                                        refine z_iconst C (v := 1) dL_law_1199 (by decide) ?_
                                        refine z_iadd C dL_law_1200 ?_
                                        refine z_sld CL dL_law_1201 hf (fun x229 hf => ?_)
                                        obtain ⟨x231, h232, g230, hf⟩ := zbind2 hf
                                        refine z_callV C (MX7_setMargin (xl X) (xD X) (xT X) (xlo X) false hi g230) (OX7_setMargin g230) rfl cw_L_163 yv_X7_setMargin dL_law_1202 rfl (by decide) ⟨Nat.zero_add _, Nat.zero_add _⟩ (Nat.le_of_ble_eq_true rfl) (st := []) rfl ?_
                                        refine z_istore C dL_law_1205 (by decide) (lv' := [(6, .int x231), (5, .int x227), (0, .ref bs), (1, .ref y1), (2, .ref y2), (3, .ref y3), (4, .int x10)]) rfl ?_
                                        refine z_aload_n C dL_law_1207 4 rfl rfl ?_
                                        obtain ⟨x234, g233, hf⟩ := zbind hf
                                        refine z_callV C (MX7_thrown (xl X) (xD X) (xT X) (xlo X) false hi g233) (OX7_thrown g233) rfl cw_L_109 yv_X7_thrown dL_law_1208 rfl (by decide) ⟨Nat.zero_add _, Nat.zero_add _⟩ (Nat.le_of_ble_eq_true rfl) (st := []) rfl ?_
                                        refine z_iload C dL_law_1211 1 rfl ?_
                                        refine z_icmp_eq (tgt := 1218) C dL_law_1213 (by decide) hf (fun hf => ?_) (fun hf => ?_)
                                        · refine z_join (P := fun J => ∀ (u9 : Unit), J u9 = some r9 → zW X 7 Z (k * 5) (k * 30) false hi h232 1235 [(0, .ref bs), (1, .ref y1), (2, .ref y2), (3, .ref y3), (4, .int x10)] []) hf ?_ ?_
                                          · intro u9 hf
                                            refine z_goto (tgt := 2049) C dL_law_1235 (by decide) ?_
                                            refine z_less (kc' := k * 5) (ks' := k * 30) (by omega) (by omega) ?_
                                            exact kJ13 _ hf
                                          · intro J235 kJ235 hf
                                            refine z_iload C dL_law_1218 1 rfl ?_
                                            refine z_if_ne (tgt := 1235) C dL_law_1220 (by decide) hf (fun hf => ?_) (fun hf => ?_)
                                            · refine z_less (kc' := k * 5) (ks' := k * 30) (by omega) (by omega) ?_
                                              refine z_sub [2, 3, 4, 5, 6] rfl ?_
                                              exact kJ235 _ hf
                                            · refine z_aload_n C dL_law_1223 5 rfl rfl ?_
                                              refine z_iconst C (v := 0) dL_law_1224 (by decide) ?_
                                              refine z_laload C dL_law_1225 hf (fun x236 hf => ?_)
                                              refine z_iload C dL_law_1226 0 rfl ?_
                                              refine z_i2l C dL_law_1228 ?_
                                              refine z_lcmp C dL_law_1229 ?_
                                              refine z_if_eq (tgt := 1235) C dL_law_1230 (by decide) hf (fun hf => ?_) (fun hf => ?_)
                                              · refine z_less (kc' := k * 5) (ks' := k * 30) (by omega) (by omega) ?_
                                                refine z_sub [2, 3, 4, 5, 6] rfl ?_
                                                exact kJ235 _ hf
                                              · exact nomatch hf
                                        · exact nomatch hf
                                      · refine z_ite hf (fun c hf => ?_) (fun c16 hf => ?_)
                                        · refine z_tswIn (k := 16) (off := 1198) (tgt := 1238) C c dL_law_40 (by decide) (by decide) ?_
                                          refine z_aload_n C dL_law_1238 1 rfl rfl ?_
                                          refine z_aload_n C dL_law_1239 0 rfl rfl ?_
                                          refine z_iload C dL_law_1240 4 rfl ?_
                                          refine z_iconst C (v := 1) dL_law_1242 (by decide) ?_
                                          refine z_iadd C dL_law_1243 ?_
                                          refine z_sld CL dL_law_1244 hf (fun x237 hf => ?_)
                                          refine z_aload_n C dL_law_1245 3 rfl rfl ?_
                                          obtain ⟨x239, h240, g238, hf⟩ := zbind2 hf
                                          refine z_callW (kc' := k * 5 + 4) (ks' := k * 30 + 24) CL (ML_setGap (xl X) CL.2.2.2.1 (xD X) (xT X) (xlo X) hi g238) cw_L_164 ys_L_setGap dL_law_1246 rfl (by decide) ⟨by show 1 + _ = _; omega, by show 6 + _ = _; omega⟩ (Nat.le_of_ble_eq_true rfl) (st := []) rfl ?_
                                          refine z_istore C dL_law_1249 (by decide) (lv' := [(5, .int x239), (0, .ref bs), (1, .ref y1), (2, .ref y2), (3, .ref y3), (4, .int x10)]) rfl ?_
                                          refine z_aload_n C dL_law_1251 3 rfl rfl ?_
                                          refine z_aload_n C dL_law_1252 1 rfl rfl ?_
                                          refine z_iload C dL_law_1253 5 rfl ?_
                                          refine z_iconst C (v := 1) dL_law_1255 (by decide) ?_
                                          refine z_iadd C dL_law_1256 ?_
                                          refine z_sld CL dL_law_1257 hf (fun x241 hf => ?_)
                                          obtain ⟨x243, h244, g242, hf⟩ := zbind2 hf
                                          refine z_callV C (MX7_setGap (xl X) (xD X) (xT X) (xlo X) false hi g242) (OX7_setGap g242) rfl cw_L_166 yv_X7_setGap dL_law_1258 rfl (by decide) ⟨Nat.zero_add _, Nat.zero_add _⟩ (Nat.le_of_ble_eq_true rfl) (st := []) rfl ?_
                                          refine z_istore C dL_law_1261 (by decide) (lv' := [(6, .int x243), (5, .int x239), (0, .ref bs), (1, .ref y1), (2, .ref y2), (3, .ref y3), (4, .int x10)]) rfl ?_
                                          refine z_aload_n C dL_law_1263 4 rfl rfl ?_
                                          obtain ⟨x246, g245, hf⟩ := zbind hf
                                          refine z_callV C (MX7_thrown (xl X) (xD X) (xT X) (xlo X) false hi g245) (OX7_thrown g245) rfl cw_L_109 yv_X7_thrown dL_law_1264 rfl (by decide) ⟨Nat.zero_add _, Nat.zero_add _⟩ (Nat.le_of_ble_eq_true rfl) (st := []) rfl ?_
                                          refine z_iload C dL_law_1267 1 rfl ?_
                                          refine z_icmp_eq (tgt := 1274) C dL_law_1269 (by decide) hf (fun hf => ?_) (fun hf => ?_)
                                          · refine z_join (P := fun J => ∀ (u9 : Unit), J u9 = some r9 → zW X 7 Z (k * 5) (k * 30) false hi h244 1291 [(0, .ref bs), (1, .ref y1), (2, .ref y2), (3, .ref y3), (4, .int x10)] []) hf ?_ ?_
                                            · intro u9 hf
                                              refine z_goto (tgt := 2049) C dL_law_1291 (by decide) ?_
                                              refine z_less (kc' := k * 5) (ks' := k * 30) (by omega) (by omega) ?_
                                              exact kJ13 _ hf
                                            · intro J247 kJ247 hf
                                              refine z_iload C dL_law_1274 1 rfl ?_
                                              refine z_if_ne (tgt := 1291) C dL_law_1276 (by decide) hf (fun hf => ?_) (fun hf => ?_)
                                              · refine z_less (kc' := k * 5) (ks' := k * 30) (by omega) (by omega) ?_
                                                refine z_sub [2, 3, 4, 5, 6] rfl ?_
                                                exact kJ247 _ hf
                                              · refine z_aload_n C dL_law_1279 5 rfl rfl ?_
                                                refine z_iconst C (v := 0) dL_law_1280 (by decide) ?_
                                                refine z_laload C dL_law_1281 hf (fun x248 hf => ?_)
                                                refine z_iload C dL_law_1282 0 rfl ?_
                                                refine z_i2l C dL_law_1284 ?_
                                                refine z_lcmp C dL_law_1285 ?_
                                                refine z_if_eq (tgt := 1291) C dL_law_1286 (by decide) hf (fun hf => ?_) (fun hf => ?_)
                                                · refine z_less (kc' := k * 5) (ks' := k * 30) (by omega) (by omega) ?_
                                                  refine z_sub [2, 3, 4, 5, 6] rfl ?_
                                                  exact kJ247 _ hf
                                                · exact nomatch hf
                                          · exact nomatch hf
                                        · refine z_ite hf (fun c hf => ?_) (fun c17 hf => ?_)
                                          · refine z_tswIn (k := 17) (off := 1254) (tgt := 1294) C c dL_law_40 (by decide) (by decide) ?_
                                            refine z_aload_n C dL_law_1294 1 rfl rfl ?_
                                            obtain ⟨x250, h251, g249, hf⟩ := zbind2 hf
                                            refine z_callV C (MX6_turn (xl X) (xD X) (xT X) (xlo X) hi g249) (OX6_turn g249) rfl cw_L_167 yv_X6_turn dL_law_1295 rfl (by decide) ⟨Nat.zero_add _, Nat.zero_add _⟩ (Nat.le_of_ble_eq_true rfl) (st := []) rfl ?_
                                            refine z_aload_n C dL_law_1298 2 rfl rfl ?_
                                            obtain ⟨x253, h254, g252, hf⟩ := zbind2 hf
                                            refine z_callV C (MX7_turn (xl X) (xD X) (xT X) (xlo X) false hi g252) (OX7_turn g252) rfl cw_L_170 yv_X7_turn dL_law_1299 rfl (by decide) ⟨Nat.zero_add _, Nat.zero_add _⟩ (Nat.le_of_ble_eq_true rfl) (st := [.int x250]) rfl ?_
                                            refine z_icmp_eq (tgt := 2049) C dL_law_1302 (by decide) hf (fun hf => ?_) (fun hf => ?_)
                                            · refine z_less (kc' := k * 5) (ks' := k * 30) (by omega) (by omega) ?_
                                              exact kJ13 _ hf
                                            · exact nomatch hf
                                          · refine z_ite hf (fun c hf => ?_) (fun c18 hf => ?_)
                                            · refine z_tswIn (k := 18) (off := 1267) (tgt := 1307) C c dL_law_40 (by decide) (by decide) ?_
                                              refine z_aload_n C dL_law_1307 1 rfl rfl ?_
                                              refine z_aload_n C dL_law_1308 3 rfl rfl ?_
                                              obtain ⟨x256, h257, g255, hf⟩ := zbind2 hf
                                              refine z_callW (kc' := k * 5 + 4) (ks' := k * 30 + 24) CL (ML_undo (xl X) CL.2.2.2.1 (xD X) (xT X) (xlo X) hi g255) cw_L_171 ys_L_undo dL_law_1309 rfl (by decide) ⟨by show 1 + _ = _; omega, by show 6 + _ = _; omega⟩ (Nat.le_of_ble_eq_true rfl) (st := []) rfl ?_
                                              refine z_istore C dL_law_1312 (by decide) (lv' := [(5, .int x256), (0, .ref bs), (1, .ref y1), (2, .ref y2), (3, .ref y3), (4, .int x10)]) rfl ?_
                                              refine z_aload_n C dL_law_1314 3 rfl rfl ?_
                                              obtain ⟨x259, h260, g258, hf⟩ := zbind2 hf
                                              refine z_callV C (MX7_undo (xl X) (xD X) (xT X) (xlo X) false hi g258) (OX7_undo g258) rfl cw_L_173 yv_X7_undo dL_law_1315 rfl (by decide) ⟨Nat.zero_add _, Nat.zero_add _⟩ (Nat.le_of_ble_eq_true rfl) (st := []) rfl ?_
                                              refine z_istore C dL_law_1318 (by decide) (lv' := [(6, .int x259), (5, .int x256), (0, .ref bs), (1, .ref y1), (2, .ref y2), (3, .ref y3), (4, .int x10)]) rfl ?_
                                              refine z_aload_n C dL_law_1320 4 rfl rfl ?_
                                              obtain ⟨x262, g261, hf⟩ := zbind hf
                                              refine z_callV C (MX7_thrown (xl X) (xD X) (xT X) (xlo X) false hi g261) (OX7_thrown g261) rfl cw_L_109 yv_X7_thrown dL_law_1321 rfl (by decide) ⟨Nat.zero_add _, Nat.zero_add _⟩ (Nat.le_of_ble_eq_true rfl) (st := []) rfl ?_
                                              refine z_iload C dL_law_1324 1 rfl ?_
                                              refine z_icmp_eq (tgt := 1331) C dL_law_1326 (by decide) hf (fun hf => ?_) (fun hf => ?_)
                                              · refine z_join (P := fun J => ∀ (u9 : Unit), J u9 = some r9 → zW X 7 Z (k * 5) (k * 30) false hi h260 1348 [(0, .ref bs), (1, .ref y1), (2, .ref y2), (3, .ref y3), (4, .int x10)] []) hf ?_ ?_
                                                · intro u9 hf
                                                  refine z_goto (tgt := 2049) C dL_law_1348 (by decide) ?_
                                                  refine z_less (kc' := k * 5) (ks' := k * 30) (by omega) (by omega) ?_
                                                  exact kJ13 _ hf
                                                · intro J263 kJ263 hf
                                                  refine z_iload C dL_law_1331 1 rfl ?_
                                                  refine z_if_ne (tgt := 1348) C dL_law_1333 (by decide) hf (fun hf => ?_) (fun hf => ?_)
                                                  · refine z_less (kc' := k * 5) (ks' := k * 30) (by omega) (by omega) ?_
                                                    refine z_sub [2, 3, 4, 5, 6] rfl ?_
                                                    exact kJ263 _ hf
                                                  · refine z_aload_n C dL_law_1336 5 rfl rfl ?_
                                                    refine z_iconst C (v := 0) dL_law_1337 (by decide) ?_
                                                    refine z_laload C dL_law_1338 hf (fun x264 hf => ?_)
                                                    refine z_iload C dL_law_1339 0 rfl ?_
                                                    refine z_i2l C dL_law_1341 ?_
                                                    refine z_lcmp C dL_law_1342 ?_
                                                    refine z_if_eq (tgt := 1348) C dL_law_1343 (by decide) hf (fun hf => ?_) (fun hf => ?_)
                                                    · refine z_less (kc' := k * 5) (ks' := k * 30) (by omega) (by omega) ?_
                                                      refine z_sub [2, 3, 4, 5, 6] rfl ?_
                                                      exact kJ263 _ hf
                                                    · exact nomatch hf
                                              · exact nomatch hf
                                            · refine z_ite hf (fun c hf => ?_) (fun c19 hf => ?_)
                                              · refine z_tswIn (k := 19) (off := 1311) (tgt := 1351) C c dL_law_40 (by decide) (by decide) ?_
                                                refine z_aload_n C dL_law_1351 1 rfl rfl ?_
                                                refine z_aload_n C dL_law_1352 0 rfl rfl ?_
                                                refine z_iload C dL_law_1353 4 rfl ?_
                                                refine z_iconst C (v := 1) dL_law_1355 (by decide) ?_
                                                refine z_iadd C dL_law_1356 ?_
                                                refine z_sld CL dL_law_1357 hf (fun x265 hf => ?_)
                                                refine z_aload_n C dL_law_1358 0 rfl rfl ?_
                                                refine z_iload C dL_law_1359 4 rfl ?_
                                                refine z_iconst C (v := 2) dL_law_1361 (by decide) ?_
                                                refine z_iadd C dL_law_1362 ?_
                                                refine z_sld CL dL_law_1363 hf (fun x266 hf => ?_)
                                                refine z_aload_n C dL_law_1364 0 rfl rfl ?_
                                                refine z_iload C dL_law_1365 4 rfl ?_
                                                refine z_iconst C (v := 3) dL_law_1367 (by decide) ?_
                                                refine z_iadd C dL_law_1368 ?_
                                                refine z_sld CL dL_law_1369 hf (fun x267 hf => ?_)
                                                refine z_i2l C dL_law_1370 ?_
                                                refine z_bipush C (v := 32) dL_law_1371 (by decide) ?_
                                                refine z_lshl C dL_law_1373 ?_
                                                refine z_aload_n C dL_law_1374 0 rfl rfl ?_
                                                refine z_iload C dL_law_1375 4 rfl ?_
                                                refine z_iconst C (v := 4) dL_law_1377 (by decide) ?_
                                                refine z_iadd C dL_law_1378 ?_
                                                refine z_sld CL dL_law_1379 hf (fun x268 hf => ?_)
                                                refine z_i2l C dL_law_1380 ?_
                                                refine z_ldc2 C (v := 4294967295) mw_1332 dL_law_1381 ?_
                                                refine z_land C dL_law_1384 ?_
                                                refine z_lor C dL_law_1385 ?_
                                                refine z_aload_n C dL_law_1386 3 rfl rfl ?_
                                                obtain ⟨x270, h271, g269, hf⟩ := zbind2 hf
                                                refine z_callW (kc' := k * 5 + 2) (ks' := k * 30 + 12) CL (ML_find (xl X) CL.2.2.2.1 (xD X) (xT X) (xlo X) hi g269) cw_L_176 ys_L_find dL_law_1387 rfl (by decide) ⟨by show 3 + _ = _; omega, by show 18 + _ = _; omega⟩ (Nat.le_of_ble_eq_true rfl) (st := []) rfl ?_
                                                refine z_istore C dL_law_1390 (by decide) (lv' := [(5, .int x270), (0, .ref bs), (1, .ref y1), (2, .ref y2), (3, .ref y3), (4, .int x10)]) rfl ?_
                                                refine z_aload_n C dL_law_1392 3 rfl rfl ?_
                                                refine z_aload_n C dL_law_1393 1 rfl rfl ?_
                                                refine z_iload C dL_law_1394 5 rfl ?_
                                                refine z_iconst C (v := 1) dL_law_1396 (by decide) ?_
                                                refine z_iadd C dL_law_1397 ?_
                                                refine z_sld CL dL_law_1398 hf (fun x272 hf => ?_)
                                                refine z_aload_n C dL_law_1399 1 rfl rfl ?_
                                                refine z_iload C dL_law_1400 5 rfl ?_
                                                refine z_iconst C (v := 2) dL_law_1402 (by decide) ?_
                                                refine z_iadd C dL_law_1403 ?_
                                                refine z_sld CL dL_law_1404 hf (fun x273 hf => ?_)
                                                refine z_aload_n C dL_law_1405 1 rfl rfl ?_
                                                refine z_iload C dL_law_1406 5 rfl ?_
                                                refine z_iconst C (v := 3) dL_law_1408 (by decide) ?_
                                                refine z_iadd C dL_law_1409 ?_
                                                refine z_sld CL dL_law_1410 hf (fun x274 hf => ?_)
                                                refine z_i2l C dL_law_1411 ?_
                                                refine z_bipush C (v := 32) dL_law_1412 (by decide) ?_
                                                refine z_lshl C dL_law_1414 ?_
                                                refine z_aload_n C dL_law_1415 1 rfl rfl ?_
                                                refine z_iload C dL_law_1416 5 rfl ?_
                                                refine z_iconst C (v := 4) dL_law_1418 (by decide) ?_
                                                refine z_iadd C dL_law_1419 ?_
                                                refine z_sld CL dL_law_1420 hf (fun x275 hf => ?_)
                                                refine z_i2l C dL_law_1421 ?_
                                                refine z_ldc2 C (v := 4294967295) mw_1332 dL_law_1422 ?_
                                                refine z_land C dL_law_1425 ?_
                                                refine z_lor C dL_law_1426 ?_
                                                obtain ⟨x277, h278, g276, hf⟩ := zbind2 hf
                                                refine z_callV C (MX7_find (xl X) (xD X) (xT X) (xlo X) false hi g276) (OX7_find g276) rfl cw_L_179 yv_X7_find dL_law_1427 rfl (by decide) ⟨Nat.zero_add _, Nat.zero_add _⟩ (Nat.le_of_ble_eq_true rfl) (st := []) rfl ?_
                                                refine z_istore C dL_law_1430 (by decide) (lv' := [(6, .int x277), (5, .int x270), (0, .ref bs), (1, .ref y1), (2, .ref y2), (3, .ref y3), (4, .int x10)]) rfl ?_
                                                refine z_aload_n C dL_law_1432 4 rfl rfl ?_
                                                obtain ⟨x280, g279, hf⟩ := zbind hf
                                                refine z_callV C (MX7_thrown (xl X) (xD X) (xT X) (xlo X) false hi g279) (OX7_thrown g279) rfl cw_L_109 yv_X7_thrown dL_law_1433 rfl (by decide) ⟨Nat.zero_add _, Nat.zero_add _⟩ (Nat.le_of_ble_eq_true rfl) (st := []) rfl ?_
                                                refine z_iload C dL_law_1436 1 rfl ?_
                                                refine z_icmp_eq (tgt := 1443) C dL_law_1438 (by decide) hf (fun hf => ?_) (fun hf => ?_)
                                                · refine z_join (P := fun J => ∀ (u9 : Unit), J u9 = some r9 → zW X 7 Z (k * 5) (k * 30) false hi h278 1460 [(0, .ref bs), (1, .ref y1), (2, .ref y2), (3, .ref y3), (4, .int x10)] []) hf ?_ ?_
                                                  · intro u9 hf
                                                    refine z_goto (tgt := 2049) C dL_law_1460 (by decide) ?_
                                                    refine z_less (kc' := k * 5) (ks' := k * 30) (by omega) (by omega) ?_
                                                    exact kJ13 _ hf
                                                  · intro J281 kJ281 hf
                                                    refine z_iload C dL_law_1443 1 rfl ?_
                                                    refine z_if_ne (tgt := 1460) C dL_law_1445 (by decide) hf (fun hf => ?_) (fun hf => ?_)
                                                    · refine z_less (kc' := k * 5) (ks' := k * 30) (by omega) (by omega) ?_
                                                      refine z_sub [2, 3, 4, 5, 6] rfl ?_
                                                      exact kJ281 _ hf
                                                    · refine z_aload_n C dL_law_1448 5 rfl rfl ?_
                                                      refine z_iconst C (v := 0) dL_law_1449 (by decide) ?_
                                                      refine z_laload C dL_law_1450 hf (fun x282 hf => ?_)
                                                      refine z_iload C dL_law_1451 0 rfl ?_
                                                      refine z_i2l C dL_law_1453 ?_
                                                      refine z_lcmp C dL_law_1454 ?_
                                                      refine z_if_eq (tgt := 1460) C dL_law_1455 (by decide) hf (fun hf => ?_) (fun hf => ?_)
                                                      · refine z_less (kc' := k * 5) (ks' := k * 30) (by omega) (by omega) ?_
                                                        refine z_sub [2, 3, 4, 5, 6] rfl ?_
                                                        exact kJ281 _ hf
                                                      · exact nomatch hf
                                                · exact nomatch hf
                                              · refine z_ite hf (fun c hf => ?_) (fun c20 hf => ?_)
                                                · refine z_tswIn (k := 20) (off := 1423) (tgt := 1463) C c dL_law_40 (by decide) (by decide) ?_
                                                  refine z_aload_n C dL_law_1463 1 rfl rfl ?_
                                                  obtain ⟨x284, h285, g283, hf⟩ := zbind2 hf
                                                  refine z_callV C (MX6_shared (xl X) (xD X) (xT X) (xlo X) false hi g283) (OX6_shared g283) rfl cw_L_180 yv_X6_shared dL_law_1464 rfl (by decide) ⟨Nat.zero_add _, Nat.zero_add _⟩ (Nat.le_of_ble_eq_true rfl) (st := []) rfl ?_
                                                  refine z_aload_n C dL_law_1467 2 rfl rfl ?_
                                                  obtain ⟨x287, h288, g286, hf⟩ := zbind2 hf
                                                  refine z_callV C (MX7_shared (xl X) (xD X) (xT X) (xlo X) false hi g286) (OX7_shared g286) rfl cw_L_183 yv_X7_shared dL_law_1468 rfl (by decide) ⟨Nat.zero_add _, Nat.zero_add _⟩ (Nat.le_of_ble_eq_true rfl) (st := [.int x284]) rfl ?_
                                                  refine z_icmp_eq (tgt := 2049) C dL_law_1471 (by decide) hf (fun hf => ?_) (fun hf => ?_)
                                                  · refine z_less (kc' := k * 5) (ks' := k * 30) (by omega) (by omega) ?_
                                                    exact kJ13 _ hf
                                                  · exact nomatch hf
                                                · refine z_ite hf (fun c hf => ?_) (fun c21 hf => ?_)
                                                  · refine z_tswIn (k := 21) (off := 1436) (tgt := 1476) C c dL_law_40 (by decide) (by decide) ?_
                                                    refine z_aload_n C dL_law_1476 1 rfl rfl ?_
                                                    refine z_aload_n C dL_law_1477 0 rfl rfl ?_
                                                    refine z_iload C dL_law_1478 4 rfl ?_
                                                    refine z_iconst C (v := 1) dL_law_1480 (by decide) ?_
                                                    refine z_iadd C dL_law_1481 ?_
                                                    refine z_sld CL dL_law_1482 hf (fun x289 hf => ?_)
                                                    refine z_aload_n C dL_law_1483 0 rfl rfl ?_
                                                    refine z_iload C dL_law_1484 4 rfl ?_
                                                    refine z_iconst C (v := 2) dL_law_1486 (by decide) ?_
                                                    refine z_iadd C dL_law_1487 ?_
                                                    refine z_sld CL dL_law_1488 hf (fun x290 hf => ?_)
                                                    refine z_aload_n C dL_law_1489 3 rfl rfl ?_
                                                    obtain ⟨x292, h293, g291, hf⟩ := zbind2 hf
                                                    refine z_callW (kc' := k * 5 + 3) (ks' := k * 30 + 18) CL (ML_count (xl X) CL.2.2.2.1 (xD X) (xT X) (xlo X) hi g291) cw_L_184 ys_L_count dL_law_1490 rfl (by decide) ⟨by show 2 + _ = _; omega, by show 12 + _ = _; omega⟩ (Nat.le_of_ble_eq_true rfl) (st := []) rfl ?_
                                                    refine z_istore C dL_law_1493 (by decide) (lv' := [(5, .int x292), (0, .ref bs), (1, .ref y1), (2, .ref y2), (3, .ref y3), (4, .int x10)]) rfl ?_
                                                    refine z_aload_n C dL_law_1495 3 rfl rfl ?_
                                                    refine z_aload_n C dL_law_1496 1 rfl rfl ?_
                                                    refine z_iload C dL_law_1497 5 rfl ?_
                                                    refine z_iconst C (v := 1) dL_law_1499 (by decide) ?_
                                                    refine z_iadd C dL_law_1500 ?_
                                                    refine z_sld CL dL_law_1501 hf (fun x294 hf => ?_)
                                                    refine z_aload_n C dL_law_1502 1 rfl rfl ?_
                                                    refine z_iload C dL_law_1503 5 rfl ?_
                                                    refine z_iconst C (v := 2) dL_law_1505 (by decide) ?_
                                                    refine z_iadd C dL_law_1506 ?_
                                                    refine z_sld CL dL_law_1507 hf (fun x295 hf => ?_)
                                                    obtain ⟨x297, h298, g296, hf⟩ := zbind2 hf
                                                    refine z_callV C (MX7_count (xl X) (xD X) (xT X) (xlo X) false hi g296) (OX7_count g296) rfl cw_L_186 yv_X7_count dL_law_1508 rfl (by decide) ⟨Nat.zero_add _, Nat.zero_add _⟩ (Nat.le_of_ble_eq_true rfl) (st := []) rfl ?_
                                                    refine z_istore C dL_law_1511 (by decide) (lv' := [(6, .int x297), (5, .int x292), (0, .ref bs), (1, .ref y1), (2, .ref y2), (3, .ref y3), (4, .int x10)]) rfl ?_
                                                    refine z_aload_n C dL_law_1513 4 rfl rfl ?_
                                                    obtain ⟨x300, g299, hf⟩ := zbind hf
                                                    refine z_callV C (MX7_thrown (xl X) (xD X) (xT X) (xlo X) false hi g299) (OX7_thrown g299) rfl cw_L_109 yv_X7_thrown dL_law_1514 rfl (by decide) ⟨Nat.zero_add _, Nat.zero_add _⟩ (Nat.le_of_ble_eq_true rfl) (st := []) rfl ?_
                                                    refine z_iload C dL_law_1517 1 rfl ?_
                                                    refine z_icmp_eq (tgt := 1524) C dL_law_1519 (by decide) hf (fun hf => ?_) (fun hf => ?_)
                                                    · refine z_join (P := fun J => ∀ (u9 : Unit), J u9 = some r9 → zW X 7 Z (k * 5) (k * 30) false hi h298 1541 [(0, .ref bs), (1, .ref y1), (2, .ref y2), (3, .ref y3), (4, .int x10)] []) hf ?_ ?_
                                                      · intro u9 hf
                                                        refine z_goto (tgt := 2049) C dL_law_1541 (by decide) ?_
                                                        refine z_less (kc' := k * 5) (ks' := k * 30) (by omega) (by omega) ?_
                                                        exact kJ13 _ hf
                                                      · intro J301 kJ301 hf
                                                        refine z_iload C dL_law_1524 1 rfl ?_
                                                        refine z_if_ne (tgt := 1541) C dL_law_1526 (by decide) hf (fun hf => ?_) (fun hf => ?_)
                                                        · refine z_less (kc' := k * 5) (ks' := k * 30) (by omega) (by omega) ?_
                                                          refine z_sub [2, 3, 4, 5, 6] rfl ?_
                                                          exact kJ301 _ hf
                                                        · refine z_aload_n C dL_law_1529 5 rfl rfl ?_
                                                          refine z_iconst C (v := 0) dL_law_1530 (by decide) ?_
                                                          refine z_laload C dL_law_1531 hf (fun x302 hf => ?_)
                                                          refine z_iload C dL_law_1532 0 rfl ?_
                                                          refine z_i2l C dL_law_1534 ?_
                                                          refine z_lcmp C dL_law_1535 ?_
                                                          refine z_if_eq (tgt := 1541) C dL_law_1536 (by decide) hf (fun hf => ?_) (fun hf => ?_)
                                                          · refine z_less (kc' := k * 5) (ks' := k * 30) (by omega) (by omega) ?_
                                                            refine z_sub [2, 3, 4, 5, 6] rfl ?_
                                                            exact kJ301 _ hf
                                                          · exact nomatch hf
                                                    · exact nomatch hf
                                                  · refine z_ite hf (fun c hf => ?_) (fun c22 hf => ?_)
                                                    · refine z_tswIn (k := 22) (off := 1504) (tgt := 1544) C c dL_law_40 (by decide) (by decide) ?_
                                                      refine z_aload_n C dL_law_1544 1 rfl rfl ?_
                                                      refine z_aload_n C dL_law_1545 0 rfl rfl ?_
                                                      refine z_iload C dL_law_1546 4 rfl ?_
                                                      refine z_iconst C (v := 1) dL_law_1548 (by decide) ?_
                                                      refine z_iadd C dL_law_1549 ?_
                                                      refine z_sld CL dL_law_1550 hf (fun x303 hf => ?_)
                                                      refine z_aload_n C dL_law_1551 3 rfl rfl ?_
                                                      obtain ⟨x305, h306, g304, hf⟩ := zbind2 hf
                                                      refine z_callW (kc' := k * 5 + 4) (ks' := k * 30 + 24) CL (ML_bestPen (xl X) CL.2.2.2.1 (xD X) (xT X) (xlo X) hi g304) cw_L_187 ys_L_bestPen dL_law_1552 rfl (by decide) ⟨by show 1 + _ = _; omega, by show 6 + _ = _; omega⟩ (Nat.le_of_ble_eq_true rfl) (st := []) rfl ?_
                                                      refine z_istore C dL_law_1555 (by decide) (lv' := [(5, .int x305), (0, .ref bs), (1, .ref y1), (2, .ref y2), (3, .ref y3), (4, .int x10)]) rfl ?_
                                                      refine z_aload_n C dL_law_1557 3 rfl rfl ?_
                                                      refine z_aload_n C dL_law_1558 1 rfl rfl ?_
                                                      refine z_iload C dL_law_1559 5 rfl ?_
                                                      refine z_iconst C (v := 1) dL_law_1561 (by decide) ?_
                                                      refine z_iadd C dL_law_1562 ?_
                                                      refine z_sld CL dL_law_1563 hf (fun x307 hf => ?_)
                                                      obtain ⟨x309, h310, g308, hf⟩ := zbind2 hf
                                                      refine z_callV C (MX7_bestPen (xl X) (xD X) (xT X) (xlo X) false hi g308) (OX7_bestPen g308) rfl cw_L_189 yv_X7_bestPen dL_law_1564 rfl (by decide) ⟨Nat.zero_add _, Nat.zero_add _⟩ (Nat.le_of_ble_eq_true rfl) (st := []) rfl ?_
                                                      refine z_istore C dL_law_1567 (by decide) (lv' := [(6, .int x309), (5, .int x305), (0, .ref bs), (1, .ref y1), (2, .ref y2), (3, .ref y3), (4, .int x10)]) rfl ?_
                                                      refine z_aload_n C dL_law_1569 4 rfl rfl ?_
                                                      obtain ⟨x312, g311, hf⟩ := zbind hf
                                                      refine z_callV C (MX7_thrown (xl X) (xD X) (xT X) (xlo X) false hi g311) (OX7_thrown g311) rfl cw_L_109 yv_X7_thrown dL_law_1570 rfl (by decide) ⟨Nat.zero_add _, Nat.zero_add _⟩ (Nat.le_of_ble_eq_true rfl) (st := []) rfl ?_
                                                      refine z_iload C dL_law_1573 1 rfl ?_
                                                      refine z_icmp_eq (tgt := 1580) C dL_law_1575 (by decide) hf (fun hf => ?_) (fun hf => ?_)
                                                      · refine z_join (P := fun J => ∀ (u9 : Unit), J u9 = some r9 → zW X 7 Z (k * 5) (k * 30) false hi h310 1597 [(0, .ref bs), (1, .ref y1), (2, .ref y2), (3, .ref y3), (4, .int x10)] []) hf ?_ ?_
                                                        · intro u9 hf
                                                          refine z_goto (tgt := 2049) C dL_law_1597 (by decide) ?_
                                                          refine z_less (kc' := k * 5) (ks' := k * 30) (by omega) (by omega) ?_
                                                          exact kJ13 _ hf
                                                        · intro J313 kJ313 hf
                                                          refine z_iload C dL_law_1580 1 rfl ?_
                                                          refine z_if_ne (tgt := 1597) C dL_law_1582 (by decide) hf (fun hf => ?_) (fun hf => ?_)
                                                          · refine z_less (kc' := k * 5) (ks' := k * 30) (by omega) (by omega) ?_
                                                            refine z_sub [2, 3, 4, 5, 6] rfl ?_
                                                            exact kJ313 _ hf
                                                          · refine z_aload_n C dL_law_1585 5 rfl rfl ?_
                                                            refine z_iconst C (v := 0) dL_law_1586 (by decide) ?_
                                                            refine z_laload C dL_law_1587 hf (fun x314 hf => ?_)
                                                            refine z_iload C dL_law_1588 0 rfl ?_
                                                            refine z_i2l C dL_law_1590 ?_
                                                            refine z_lcmp C dL_law_1591 ?_
                                                            refine z_if_eq (tgt := 1597) C dL_law_1592 (by decide) hf (fun hf => ?_) (fun hf => ?_)
                                                            · refine z_less (kc' := k * 5) (ks' := k * 30) (by omega) (by omega) ?_
                                                              refine z_sub [2, 3, 4, 5, 6] rfl ?_
                                                              exact kJ313 _ hf
                                                            · exact nomatch hf
                                                      · exact nomatch hf
                                                    · refine z_ite hf (fun c hf => ?_) (fun c23 hf => ?_)
                                                      · refine z_tswIn (k := 23) (off := 1560) (tgt := 1600) C c dL_law_40 (by decide) (by decide) ?_
                                                        refine z_aload_n C dL_law_1600 1 rfl rfl ?_
                                                        obtain ⟨x316, h317, g315, hf⟩ := zbind2 hf
                                                        refine z_callV C (MX6_greatestMargin (xl X) (xD X) (xT X) (xlo X) hi g315) (OX6_greatestMargin g315) rfl cw_L_190 yv_X6_greatestMargin dL_law_1601 rfl (by decide) ⟨Nat.zero_add _, Nat.zero_add _⟩ (Nat.le_of_ble_eq_true rfl) (st := []) rfl ?_
                                                        refine z_aload_n C dL_law_1604 2 rfl rfl ?_
                                                        obtain ⟨x319, h320, g318, hf⟩ := zbind2 hf
                                                        refine z_callV C (MX7_greatestMargin (xl X) (xD X) (xT X) (xlo X) false hi g318) (OX7_greatestMargin g318) rfl cw_L_193 yv_X7_greatestMargin dL_law_1605 rfl (by decide) ⟨Nat.zero_add _, Nat.zero_add _⟩ (Nat.le_of_ble_eq_true rfl) (st := [.int x316]) rfl ?_
                                                        refine z_icmp_eq (tgt := 2049) C dL_law_1608 (by decide) hf (fun hf => ?_) (fun hf => ?_)
                                                        · refine z_less (kc' := k * 5) (ks' := k * 30) (by omega) (by omega) ?_
                                                          exact kJ13 _ hf
                                                        · exact nomatch hf
                                                      · refine z_ite hf (fun c hf => ?_) (fun c24 hf => ?_)
                                                        · refine z_tswIn (k := 24) (off := 1573) (tgt := 1613) C c dL_law_40 (by decide) (by decide) ?_
                                                          refine z_aload_n C dL_law_1613 1 rfl rfl ?_
                                                          refine z_aload_n C dL_law_1614 0 rfl rfl ?_
                                                          refine z_iload C dL_law_1615 4 rfl ?_
                                                          refine z_iconst C (v := 1) dL_law_1617 (by decide) ?_
                                                          refine z_iadd C dL_law_1618 ?_
                                                          refine z_sld CL dL_law_1619 hf (fun x321 hf => ?_)
                                                          refine z_aload_n C dL_law_1620 3 rfl rfl ?_
                                                          obtain ⟨x323, h324, g322, hf⟩ := zbind2 hf
                                                          refine z_callW (kc' := k * 5 + 4) (ks' := k * 30 + 24) CL (ML_bestDecision (xl X) CL.2.2.2.1 (xD X) (xT X) (xlo X) hi g322) cw_L_194 ys_L_bestDecision dL_law_1621 rfl (by decide) ⟨by show 1 + _ = _; omega, by show 6 + _ = _; omega⟩ (Nat.le_of_ble_eq_true rfl) (st := []) rfl ?_
                                                          refine z_istore C dL_law_1624 (by decide) (lv' := [(5, .int x323), (0, .ref bs), (1, .ref y1), (2, .ref y2), (3, .ref y3), (4, .int x10)]) rfl ?_
                                                          refine z_aload_n C dL_law_1626 3 rfl rfl ?_
                                                          refine z_aload_n C dL_law_1627 1 rfl rfl ?_
                                                          refine z_iload C dL_law_1628 5 rfl ?_
                                                          refine z_iconst C (v := 1) dL_law_1630 (by decide) ?_
                                                          refine z_iadd C dL_law_1631 ?_
                                                          refine z_sld CL dL_law_1632 hf (fun x325 hf => ?_)
                                                          obtain ⟨x327, h328, g326, hf⟩ := zbind2 hf
                                                          refine z_callV C (MX7_bestDecision (xl X) (xD X) (xT X) (xlo X) false hi g326) (OX7_bestDecision g326) rfl cw_L_196 yv_X7_bestDecision dL_law_1633 rfl (by decide) ⟨Nat.zero_add _, Nat.zero_add _⟩ (Nat.le_of_ble_eq_true rfl) (st := []) rfl ?_
                                                          refine z_istore C dL_law_1636 (by decide) (lv' := [(6, .int x327), (5, .int x323), (0, .ref bs), (1, .ref y1), (2, .ref y2), (3, .ref y3), (4, .int x10)]) rfl ?_
                                                          refine z_aload_n C dL_law_1638 4 rfl rfl ?_
                                                          obtain ⟨x330, g329, hf⟩ := zbind hf
                                                          refine z_callV C (MX7_thrown (xl X) (xD X) (xT X) (xlo X) false hi g329) (OX7_thrown g329) rfl cw_L_109 yv_X7_thrown dL_law_1639 rfl (by decide) ⟨Nat.zero_add _, Nat.zero_add _⟩ (Nat.le_of_ble_eq_true rfl) (st := []) rfl ?_
                                                          refine z_iload C dL_law_1642 1 rfl ?_
                                                          refine z_icmp_eq (tgt := 1649) C dL_law_1644 (by decide) hf (fun hf => ?_) (fun hf => ?_)
                                                          · refine z_join (P := fun J => ∀ (u9 : Unit), J u9 = some r9 → zW X 7 Z (k * 5) (k * 30) false hi h328 1666 [(0, .ref bs), (1, .ref y1), (2, .ref y2), (3, .ref y3), (4, .int x10)] []) hf ?_ ?_
                                                            · intro u9 hf
                                                              refine z_goto (tgt := 2049) C dL_law_1666 (by decide) ?_
                                                              refine z_less (kc' := k * 5) (ks' := k * 30) (by omega) (by omega) ?_
                                                              exact kJ13 _ hf
                                                            · intro J331 kJ331 hf
                                                              refine z_iload C dL_law_1649 1 rfl ?_
                                                              refine z_if_ne (tgt := 1666) C dL_law_1651 (by decide) hf (fun hf => ?_) (fun hf => ?_)
                                                              · refine z_less (kc' := k * 5) (ks' := k * 30) (by omega) (by omega) ?_
                                                                refine z_sub [2, 3, 4, 5, 6] rfl ?_
                                                                exact kJ331 _ hf
                                                              · refine z_aload_n C dL_law_1654 5 rfl rfl ?_
                                                                refine z_iconst C (v := 0) dL_law_1655 (by decide) ?_
                                                                refine z_laload C dL_law_1656 hf (fun x332 hf => ?_)
                                                                refine z_iload C dL_law_1657 0 rfl ?_
                                                                refine z_i2l C dL_law_1659 ?_
                                                                refine z_lcmp C dL_law_1660 ?_
                                                                refine z_if_eq (tgt := 1666) C dL_law_1661 (by decide) hf (fun hf => ?_) (fun hf => ?_)
                                                                · refine z_less (kc' := k * 5) (ks' := k * 30) (by omega) (by omega) ?_
                                                                  refine z_sub [2, 3, 4, 5, 6] rfl ?_
                                                                  exact kJ331 _ hf
                                                                · exact nomatch hf
                                                          · exact nomatch hf
                                                        · refine z_ite hf (fun c hf => ?_) (fun c25 hf => ?_)
                                                          · refine z_tswIn (k := 25) (off := 1629) (tgt := 1669) C c dL_law_40 (by decide) (by decide) ?_
                                                            refine z_aload_n C dL_law_1669 1 rfl rfl ?_
                                                            refine z_aload_n C dL_law_1670 0 rfl rfl ?_
                                                            refine z_iload C dL_law_1671 4 rfl ?_
                                                            refine z_iconst C (v := 1) dL_law_1673 (by decide) ?_
                                                            refine z_iadd C dL_law_1674 ?_
                                                            refine z_sld CL dL_law_1675 hf (fun x333 hf => ?_)
                                                            refine z_aload_n C dL_law_1676 0 rfl rfl ?_
                                                            refine z_iload C dL_law_1677 4 rfl ?_
                                                            refine z_iconst C (v := 2) dL_law_1679 (by decide) ?_
                                                            refine z_iadd C dL_law_1680 ?_
                                                            refine z_sld CL dL_law_1681 hf (fun x334 hf => ?_)
                                                            refine z_aload_n C dL_law_1682 3 rfl rfl ?_
                                                            obtain ⟨x336, h337, g335, hf⟩ := zbind2 hf
                                                            refine z_callW (kc' := k * 5 + 3) (ks' := k * 30 + 18) CL (ML_wordsWith (xl X) CL.2.2.2.1 (xD X) (xT X) (xlo X) hi g335) cw_L_197 ys_L_wordsWith dL_law_1683 rfl (by decide) ⟨by show 2 + _ = _; omega, by show 12 + _ = _; omega⟩ (Nat.le_of_ble_eq_true rfl) (st := []) rfl ?_
                                                            refine z_istore C dL_law_1686 (by decide) (lv' := [(5, .int x336), (0, .ref bs), (1, .ref y1), (2, .ref y2), (3, .ref y3), (4, .int x10)]) rfl ?_
                                                            refine z_aload_n C dL_law_1688 3 rfl rfl ?_
                                                            refine z_aload_n C dL_law_1689 1 rfl rfl ?_
                                                            refine z_iload C dL_law_1690 5 rfl ?_
                                                            refine z_iconst C (v := 1) dL_law_1692 (by decide) ?_
                                                            refine z_iadd C dL_law_1693 ?_
                                                            refine z_sld CL dL_law_1694 hf (fun x338 hf => ?_)
                                                            refine z_aload_n C dL_law_1695 1 rfl rfl ?_
                                                            refine z_iload C dL_law_1696 5 rfl ?_
                                                            refine z_iconst C (v := 2) dL_law_1698 (by decide) ?_
                                                            refine z_iadd C dL_law_1699 ?_
                                                            refine z_sld CL dL_law_1700 hf (fun x339 hf => ?_)
                                                            obtain ⟨x341, h342, g340, hf⟩ := zbind2 hf
                                                            refine z_callV C (MX7_wordsWith (xl X) (xD X) (xT X) (xlo X) false hi g340) (OX7_wordsWith g340) rfl cw_L_199 yv_X7_wordsWith dL_law_1701 rfl (by decide) ⟨Nat.zero_add _, Nat.zero_add _⟩ (Nat.le_of_ble_eq_true rfl) (st := []) rfl ?_
                                                            refine z_istore C dL_law_1704 (by decide) (lv' := [(6, .int x341), (5, .int x336), (0, .ref bs), (1, .ref y1), (2, .ref y2), (3, .ref y3), (4, .int x10)]) rfl ?_
                                                            refine z_aload_n C dL_law_1706 4 rfl rfl ?_
                                                            obtain ⟨x344, g343, hf⟩ := zbind hf
                                                            refine z_callV C (MX7_thrown (xl X) (xD X) (xT X) (xlo X) false hi g343) (OX7_thrown g343) rfl cw_L_109 yv_X7_thrown dL_law_1707 rfl (by decide) ⟨Nat.zero_add _, Nat.zero_add _⟩ (Nat.le_of_ble_eq_true rfl) (st := []) rfl ?_
                                                            refine z_iload C dL_law_1710 1 rfl ?_
                                                            refine z_icmp_eq (tgt := 1717) C dL_law_1712 (by decide) hf (fun hf => ?_) (fun hf => ?_)
                                                            · refine z_join (P := fun J => ∀ (u9 : Unit), J u9 = some r9 → zW X 7 Z (k * 5) (k * 30) false hi h342 1734 [(0, .ref bs), (1, .ref y1), (2, .ref y2), (3, .ref y3), (4, .int x10)] []) hf ?_ ?_
                                                              · intro u9 hf
                                                                refine z_goto (tgt := 2049) C dL_law_1734 (by decide) ?_
                                                                refine z_less (kc' := k * 5) (ks' := k * 30) (by omega) (by omega) ?_
                                                                exact kJ13 _ hf
                                                              · intro J345 kJ345 hf
                                                                refine z_iload C dL_law_1717 1 rfl ?_
                                                                refine z_if_ne (tgt := 1734) C dL_law_1719 (by decide) hf (fun hf => ?_) (fun hf => ?_)
                                                                · refine z_less (kc' := k * 5) (ks' := k * 30) (by omega) (by omega) ?_
                                                                  refine z_sub [2, 3, 4, 5, 6] rfl ?_
                                                                  exact kJ345 _ hf
                                                                · refine z_aload_n C dL_law_1722 5 rfl rfl ?_
                                                                  refine z_iconst C (v := 0) dL_law_1723 (by decide) ?_
                                                                  refine z_laload C dL_law_1724 hf (fun x346 hf => ?_)
                                                                  refine z_iload C dL_law_1725 0 rfl ?_
                                                                  refine z_i2l C dL_law_1727 ?_
                                                                  refine z_lcmp C dL_law_1728 ?_
                                                                  refine z_if_eq (tgt := 1734) C dL_law_1729 (by decide) hf (fun hf => ?_) (fun hf => ?_)
                                                                  · refine z_less (kc' := k * 5) (ks' := k * 30) (by omega) (by omega) ?_
                                                                    refine z_sub [2, 3, 4, 5, 6] rfl ?_
                                                                    exact kJ345 _ hf
                                                                  · exact nomatch hf
                                                            · exact nomatch hf
                                                          · refine z_ite hf (fun c hf => ?_) (fun c26 hf => ?_)
                                                            · refine z_tswIn (k := 26) (off := 1697) (tgt := 1737) C c dL_law_40 (by decide) (by decide) ?_
                                                              refine z_aload_n C dL_law_1737 1 rfl rfl ?_
                                                              refine z_aload_n C dL_law_1738 0 rfl rfl ?_
                                                              refine z_iload C dL_law_1739 4 rfl ?_
                                                              refine z_iconst C (v := 1) dL_law_1741 (by decide) ?_
                                                              refine z_iadd C dL_law_1742 ?_
                                                              refine z_sld CL dL_law_1743 hf (fun x347 hf => ?_)
                                                              refine z_aload_n C dL_law_1744 0 rfl rfl ?_
                                                              refine z_iload C dL_law_1745 4 rfl ?_
                                                              refine z_iconst C (v := 2) dL_law_1747 (by decide) ?_
                                                              refine z_iadd C dL_law_1748 ?_
                                                              refine z_sld CL dL_law_1749 hf (fun x348 hf => ?_)
                                                              refine z_i2l C dL_law_1750 ?_
                                                              refine z_bipush C (v := 32) dL_law_1751 (by decide) ?_
                                                              refine z_lshl C dL_law_1753 ?_
                                                              refine z_aload_n C dL_law_1754 0 rfl rfl ?_
                                                              refine z_iload C dL_law_1755 4 rfl ?_
                                                              refine z_iconst C (v := 3) dL_law_1757 (by decide) ?_
                                                              refine z_iadd C dL_law_1758 ?_
                                                              refine z_sld CL dL_law_1759 hf (fun x349 hf => ?_)
                                                              refine z_i2l C dL_law_1760 ?_
                                                              refine z_ldc2 C (v := 4294967295) mw_1332 dL_law_1761 ?_
                                                              refine z_land C dL_law_1764 ?_
                                                              refine z_lor C dL_law_1765 ?_
                                                              refine z_aload_n C dL_law_1766 3 rfl rfl ?_
                                                              obtain ⟨x351, h352, g350, hf⟩ := zbind2 hf
                                                              refine z_callW (kc' := k * 5 + 3) (ks' := k * 30 + 18) CL (ML_runScript (xl X) CL.2.2.2.1 (xD X) (xT X) (xlo X) hi g350) cw_L_200 ys_L_runScript dL_law_1767 rfl (by decide) ⟨by show 2 + _ = _; omega, by show 12 + _ = _; omega⟩ (Nat.le_of_ble_eq_true rfl) (st := []) rfl ?_
                                                              refine z_istore C dL_law_1770 (by decide) (lv' := [(5, .int x351), (0, .ref bs), (1, .ref y1), (2, .ref y2), (3, .ref y3), (4, .int x10)]) rfl ?_
                                                              refine z_aload_n C dL_law_1772 3 rfl rfl ?_
                                                              refine z_aload_n C dL_law_1773 1 rfl rfl ?_
                                                              refine z_iload C dL_law_1774 5 rfl ?_
                                                              refine z_iconst C (v := 1) dL_law_1776 (by decide) ?_
                                                              refine z_iadd C dL_law_1777 ?_
                                                              refine z_sld CL dL_law_1778 hf (fun x353 hf => ?_)
                                                              refine z_aload_n C dL_law_1779 1 rfl rfl ?_
                                                              refine z_iload C dL_law_1780 5 rfl ?_
                                                              refine z_iconst C (v := 2) dL_law_1782 (by decide) ?_
                                                              refine z_iadd C dL_law_1783 ?_
                                                              refine z_sld CL dL_law_1784 hf (fun x354 hf => ?_)
                                                              refine z_i2l C dL_law_1785 ?_
                                                              refine z_bipush C (v := 32) dL_law_1786 (by decide) ?_
                                                              refine z_lshl C dL_law_1788 ?_
                                                              refine z_aload_n C dL_law_1789 1 rfl rfl ?_
                                                              refine z_iload C dL_law_1790 5 rfl ?_
                                                              refine z_iconst C (v := 3) dL_law_1792 (by decide) ?_
                                                              refine z_iadd C dL_law_1793 ?_
                                                              refine z_sld CL dL_law_1794 hf (fun x355 hf => ?_)
                                                              refine z_i2l C dL_law_1795 ?_
                                                              refine z_ldc2 C (v := 4294967295) mw_1332 dL_law_1796 ?_
                                                              refine z_land C dL_law_1799 ?_
                                                              refine z_lor C dL_law_1800 ?_
                                                              obtain ⟨x357, h358, g356, hf⟩ := zbind2 hf
                                                              refine z_callV C (MX7_runScript (xl X) (xD X) (xT X) (xlo X) false hi g356) (OX7_runScript g356) rfl cw_L_203 yv_X7_runScript dL_law_1801 rfl (by decide) ⟨Nat.zero_add _, Nat.zero_add _⟩ (Nat.le_of_ble_eq_true rfl) (st := []) rfl ?_
                                                              refine z_istore C dL_law_1804 (by decide) (lv' := [(6, .int x357), (5, .int x351), (0, .ref bs), (1, .ref y1), (2, .ref y2), (3, .ref y3), (4, .int x10)]) rfl ?_
                                                              refine z_aload_n C dL_law_1806 4 rfl rfl ?_
                                                              obtain ⟨x360, g359, hf⟩ := zbind hf
                                                              refine z_callV C (MX7_thrown (xl X) (xD X) (xT X) (xlo X) false hi g359) (OX7_thrown g359) rfl cw_L_109 yv_X7_thrown dL_law_1807 rfl (by decide) ⟨Nat.zero_add _, Nat.zero_add _⟩ (Nat.le_of_ble_eq_true rfl) (st := []) rfl ?_
                                                              refine z_iload C dL_law_1810 1 rfl ?_
                                                              refine z_icmp_eq (tgt := 1817) C dL_law_1812 (by decide) hf (fun hf => ?_) (fun hf => ?_)
                                                              · refine z_join (P := fun J => ∀ (u9 : Unit), J u9 = some r9 → zW X 7 Z (k * 5) (k * 30) false hi h358 1834 [(0, .ref bs), (1, .ref y1), (2, .ref y2), (3, .ref y3), (4, .int x10)] []) hf ?_ ?_
                                                                · intro u9 hf
                                                                  refine z_goto (tgt := 2049) C dL_law_1834 (by decide) ?_
                                                                  refine z_less (kc' := k * 5) (ks' := k * 30) (by omega) (by omega) ?_
                                                                  exact kJ13 _ hf
                                                                · intro J361 kJ361 hf
                                                                  refine z_iload C dL_law_1817 1 rfl ?_
                                                                  refine z_if_ne (tgt := 1834) C dL_law_1819 (by decide) hf (fun hf => ?_) (fun hf => ?_)
                                                                  · refine z_less (kc' := k * 5) (ks' := k * 30) (by omega) (by omega) ?_
                                                                    refine z_sub [2, 3, 4, 5, 6] rfl ?_
                                                                    exact kJ361 _ hf
                                                                  · refine z_aload_n C dL_law_1822 5 rfl rfl ?_
                                                                    refine z_iconst C (v := 0) dL_law_1823 (by decide) ?_
                                                                    refine z_laload C dL_law_1824 hf (fun x362 hf => ?_)
                                                                    refine z_iload C dL_law_1825 0 rfl ?_
                                                                    refine z_i2l C dL_law_1827 ?_
                                                                    refine z_lcmp C dL_law_1828 ?_
                                                                    refine z_if_eq (tgt := 1834) C dL_law_1829 (by decide) hf (fun hf => ?_) (fun hf => ?_)
                                                                    · refine z_less (kc' := k * 5) (ks' := k * 30) (by omega) (by omega) ?_
                                                                      refine z_sub [2, 3, 4, 5, 6] rfl ?_
                                                                      exact kJ361 _ hf
                                                                    · exact nomatch hf
                                                              · exact nomatch hf
                                                            · refine z_ite hf (fun c hf => ?_) (fun c27 hf => ?_)
                                                              · refine z_tswIn (k := 27) (off := 1797) (tgt := 1837) C c dL_law_40 (by decide) (by decide) ?_
                                                                refine z_aload_n C dL_law_1837 1 rfl rfl ?_
                                                                refine z_aload_n C dL_law_1838 0 rfl rfl ?_
                                                                refine z_iload C dL_law_1839 4 rfl ?_
                                                                refine z_iconst C (v := 1) dL_law_1841 (by decide) ?_
                                                                refine z_iadd C dL_law_1842 ?_
                                                                refine z_sld CL dL_law_1843 hf (fun x363 hf => ?_)
                                                                refine z_i2l C dL_law_1844 ?_
                                                                refine z_bipush C (v := 32) dL_law_1845 (by decide) ?_
                                                                refine z_lshl C dL_law_1847 ?_
                                                                refine z_aload_n C dL_law_1848 0 rfl rfl ?_
                                                                refine z_iload C dL_law_1849 4 rfl ?_
                                                                refine z_iconst C (v := 2) dL_law_1851 (by decide) ?_
                                                                refine z_iadd C dL_law_1852 ?_
                                                                refine z_sld CL dL_law_1853 hf (fun x364 hf => ?_)
                                                                refine z_i2l C dL_law_1854 ?_
                                                                refine z_ldc2 C (v := 4294967295) mw_1332 dL_law_1855 ?_
                                                                refine z_land C dL_law_1858 ?_
                                                                refine z_lor C dL_law_1859 ?_
                                                                refine z_aload_n C dL_law_1860 0 rfl rfl ?_
                                                                refine z_iload C dL_law_1861 4 rfl ?_
                                                                refine z_iconst C (v := 3) dL_law_1863 (by decide) ?_
                                                                refine z_iadd C dL_law_1864 ?_
                                                                refine z_sld CL dL_law_1865 hf (fun x365 hf => ?_)
                                                                refine z_aload_n C dL_law_1866 3 rfl rfl ?_
                                                                obtain ⟨x367, h368, g366, hf⟩ := zbind2 hf
                                                                refine z_callW (kc' := k * 5 + 4) (ks' := k * 30 + 24) CL (ML_simulate (xl X) CL.2.2.2.1 (xD X) (xT X) (xlo X) hi g366) cw_L_204 ys_L_simulate dL_law_1867 rfl (by decide) ⟨by show 1 + _ = _; omega, by show 6 + _ = _; omega⟩ (Nat.le_of_ble_eq_true rfl) (st := []) rfl ?_
                                                                refine z_istore C dL_law_1870 (by decide) (lv' := [(5, .int x367), (0, .ref bs), (1, .ref y1), (2, .ref y2), (3, .ref y3), (4, .int x10)]) rfl ?_
                                                                refine z_aload_n C dL_law_1872 3 rfl rfl ?_
                                                                refine z_aload_n C dL_law_1873 1 rfl rfl ?_
                                                                refine z_iload C dL_law_1874 5 rfl ?_
                                                                refine z_iconst C (v := 1) dL_law_1876 (by decide) ?_
                                                                refine z_iadd C dL_law_1877 ?_
                                                                refine z_sld CL dL_law_1878 hf (fun x369 hf => ?_)
                                                                refine z_i2l C dL_law_1879 ?_
                                                                refine z_bipush C (v := 32) dL_law_1880 (by decide) ?_
                                                                refine z_lshl C dL_law_1882 ?_
                                                                refine z_aload_n C dL_law_1883 1 rfl rfl ?_
                                                                refine z_iload C dL_law_1884 5 rfl ?_
                                                                refine z_iconst C (v := 2) dL_law_1886 (by decide) ?_
                                                                refine z_iadd C dL_law_1887 ?_
                                                                refine z_sld CL dL_law_1888 hf (fun x370 hf => ?_)
                                                                refine z_i2l C dL_law_1889 ?_
                                                                refine z_ldc2 C (v := 4294967295) mw_1332 dL_law_1890 ?_
                                                                refine z_land C dL_law_1893 ?_
                                                                refine z_lor C dL_law_1894 ?_
                                                                refine z_aload_n C dL_law_1895 1 rfl rfl ?_
                                                                refine z_iload C dL_law_1896 5 rfl ?_
                                                                refine z_iconst C (v := 3) dL_law_1898 (by decide) ?_
                                                                refine z_iadd C dL_law_1899 ?_
                                                                refine z_sld CL dL_law_1900 hf (fun x371 hf => ?_)
                                                                obtain ⟨x373, h374, g372, hf⟩ := zbind2 hf
                                                                refine z_callV C (MX7_simulate (xl X) (xD X) (xT X) (xlo X) false hi g372) (OX7_simulate g372) rfl cw_L_207 yv_X7_simulate dL_law_1901 rfl (by decide) ⟨Nat.zero_add _, Nat.zero_add _⟩ (Nat.le_of_ble_eq_true rfl) (st := []) rfl ?_
                                                                refine z_istore C dL_law_1904 (by decide) (lv' := [(6, .int x373), (5, .int x367), (0, .ref bs), (1, .ref y1), (2, .ref y2), (3, .ref y3), (4, .int x10)]) rfl ?_
                                                                refine z_aload_n C dL_law_1906 4 rfl rfl ?_
                                                                obtain ⟨x376, g375, hf⟩ := zbind hf
                                                                refine z_callV C (MX7_thrown (xl X) (xD X) (xT X) (xlo X) false hi g375) (OX7_thrown g375) rfl cw_L_109 yv_X7_thrown dL_law_1907 rfl (by decide) ⟨Nat.zero_add _, Nat.zero_add _⟩ (Nat.le_of_ble_eq_true rfl) (st := []) rfl ?_
                                                                refine z_iload C dL_law_1910 1 rfl ?_
                                                                refine z_icmp_eq (tgt := 1917) C dL_law_1912 (by decide) hf (fun hf => ?_) (fun hf => ?_)
                                                                · refine z_join (P := fun J => ∀ (u9 : Unit), J u9 = some r9 → zW X 7 Z (k * 5) (k * 30) false hi h374 1934 [(0, .ref bs), (1, .ref y1), (2, .ref y2), (3, .ref y3), (4, .int x10)] []) hf ?_ ?_
                                                                  · intro u9 hf
                                                                    refine z_goto (tgt := 2049) C dL_law_1934 (by decide) ?_
                                                                    refine z_less (kc' := k * 5) (ks' := k * 30) (by omega) (by omega) ?_
                                                                    exact kJ13 _ hf
                                                                  · intro J377 kJ377 hf
                                                                    refine z_iload C dL_law_1917 1 rfl ?_
                                                                    refine z_if_ne (tgt := 1934) C dL_law_1919 (by decide) hf (fun hf => ?_) (fun hf => ?_)
                                                                    · refine z_less (kc' := k * 5) (ks' := k * 30) (by omega) (by omega) ?_
                                                                      refine z_sub [2, 3, 4, 5, 6] rfl ?_
                                                                      exact kJ377 _ hf
                                                                    · refine z_aload_n C dL_law_1922 5 rfl rfl ?_
                                                                      refine z_iconst C (v := 0) dL_law_1923 (by decide) ?_
                                                                      refine z_laload C dL_law_1924 hf (fun x378 hf => ?_)
                                                                      refine z_iload C dL_law_1925 0 rfl ?_
                                                                      refine z_i2l C dL_law_1927 ?_
                                                                      refine z_lcmp C dL_law_1928 ?_
                                                                      refine z_if_eq (tgt := 1934) C dL_law_1929 (by decide) hf (fun hf => ?_) (fun hf => ?_)
                                                                      · refine z_less (kc' := k * 5) (ks' := k * 30) (by omega) (by omega) ?_
                                                                        refine z_sub [2, 3, 4, 5, 6] rfl ?_
                                                                        exact kJ377 _ hf
                                                                      · exact nomatch hf
                                                                · exact nomatch hf
                                                              · refine z_ite hf (fun c hf => ?_) (fun c28 hf => ?_)
                                                                · refine z_tswIn (k := 28) (off := 1897) (tgt := 1937) C c dL_law_40 (by decide) (by decide) ?_
                                                                  refine z_aload_n C dL_law_1937 1 rfl rfl ?_
                                                                  refine z_aload_n C dL_law_1938 0 rfl rfl ?_
                                                                  refine z_iload C dL_law_1939 4 rfl ?_
                                                                  refine z_iconst C (v := 1) dL_law_1941 (by decide) ?_
                                                                  refine z_iadd C dL_law_1942 ?_
                                                                  refine z_sld CL dL_law_1943 hf (fun x379 hf => ?_)
                                                                  refine z_aload_n C dL_law_1944 3 rfl rfl ?_
                                                                  obtain ⟨x381, h382, g380, hf⟩ := zbind2 hf
                                                                  refine z_callW (kc' := k * 5 + 4) (ks' := k * 30 + 24) CL (ML_save (xl X) CL.2.2.2.1 (xD X) (xT X) (xlo X) hi g380) cw_L_208 ys_L_save dL_law_1945 rfl (by decide) ⟨by show 1 + _ = _; omega, by show 6 + _ = _; omega⟩ (Nat.le_of_ble_eq_true rfl) (st := []) rfl ?_
                                                                  refine z_istore C dL_law_1948 (by decide) (lv' := [(5, .int x381), (0, .ref bs), (1, .ref y1), (2, .ref y2), (3, .ref y3), (4, .int x10)]) rfl ?_
                                                                  refine z_aload_n C dL_law_1950 3 rfl rfl ?_
                                                                  refine z_aload_n C dL_law_1951 1 rfl rfl ?_
                                                                  refine z_iload C dL_law_1952 5 rfl ?_
                                                                  refine z_iconst C (v := 1) dL_law_1954 (by decide) ?_
                                                                  refine z_iadd C dL_law_1955 ?_
                                                                  refine z_sld CL dL_law_1956 hf (fun x383 hf => ?_)
                                                                  obtain ⟨x385, h386, g384, hf⟩ := zbind2 hf
                                                                  refine z_callV C (MX7_save (xl X) (xD X) (xT X) (xlo X) false hi g384) (OX7_save g384) rfl cw_L_210 yv_X7_save dL_law_1957 rfl (by decide) ⟨Nat.zero_add _, Nat.zero_add _⟩ (Nat.le_of_ble_eq_true rfl) (st := []) rfl ?_
                                                                  refine z_istore C dL_law_1960 (by decide) (lv' := [(6, .int x385), (5, .int x381), (0, .ref bs), (1, .ref y1), (2, .ref y2), (3, .ref y3), (4, .int x10)]) rfl ?_
                                                                  refine z_aload_n C dL_law_1962 4 rfl rfl ?_
                                                                  obtain ⟨x388, g387, hf⟩ := zbind hf
                                                                  refine z_callV C (MX7_thrown (xl X) (xD X) (xT X) (xlo X) false hi g387) (OX7_thrown g387) rfl cw_L_109 yv_X7_thrown dL_law_1963 rfl (by decide) ⟨Nat.zero_add _, Nat.zero_add _⟩ (Nat.le_of_ble_eq_true rfl) (st := []) rfl ?_
                                                                  refine z_iload C dL_law_1966 1 rfl ?_
                                                                  refine z_icmp_eq (tgt := 1973) C dL_law_1968 (by decide) hf (fun hf => ?_) (fun hf => ?_)
                                                                  · refine z_join (P := fun J => ∀ (u9 : Unit), J u9 = some r9 → zW X 7 Z (k * 5) (k * 30) false hi h386 1990 [(0, .ref bs), (1, .ref y1), (2, .ref y2), (3, .ref y3), (4, .int x10)] []) hf ?_ ?_
                                                                    · intro u9 hf
                                                                      refine z_goto (tgt := 2049) C dL_law_1990 (by decide) ?_
                                                                      refine z_less (kc' := k * 5) (ks' := k * 30) (by omega) (by omega) ?_
                                                                      exact kJ13 _ hf
                                                                    · intro J389 kJ389 hf
                                                                      refine z_iload C dL_law_1973 1 rfl ?_
                                                                      refine z_if_ne (tgt := 1990) C dL_law_1975 (by decide) hf (fun hf => ?_) (fun hf => ?_)
                                                                      · refine z_less (kc' := k * 5) (ks' := k * 30) (by omega) (by omega) ?_
                                                                        refine z_sub [2, 3, 4, 5, 6] rfl ?_
                                                                        exact kJ389 _ hf
                                                                      · refine z_aload_n C dL_law_1978 5 rfl rfl ?_
                                                                        refine z_iconst C (v := 0) dL_law_1979 (by decide) ?_
                                                                        refine z_laload C dL_law_1980 hf (fun x390 hf => ?_)
                                                                        refine z_iload C dL_law_1981 0 rfl ?_
                                                                        refine z_i2l C dL_law_1983 ?_
                                                                        refine z_lcmp C dL_law_1984 ?_
                                                                        refine z_if_eq (tgt := 1990) C dL_law_1985 (by decide) hf (fun hf => ?_) (fun hf => ?_)
                                                                        · refine z_less (kc' := k * 5) (ks' := k * 30) (by omega) (by omega) ?_
                                                                          refine z_sub [2, 3, 4, 5, 6] rfl ?_
                                                                          exact kJ389 _ hf
                                                                        · exact nomatch hf
                                                                  · exact nomatch hf
                                                                · refine z_ite hf (fun c hf => ?_) (fun c29 hf => ?_)
                                                                  · refine z_tswIn (k := 29) (off := 1953) (tgt := 1993) C c dL_law_40 (by decide) (by decide) ?_
                                                                    refine z_aload_n C dL_law_1993 1 rfl rfl ?_
                                                                    refine z_aload_n C dL_law_1994 0 rfl rfl ?_
                                                                    refine z_iload C dL_law_1995 4 rfl ?_
                                                                    refine z_iconst C (v := 1) dL_law_1997 (by decide) ?_
                                                                    refine z_iadd C dL_law_1998 ?_
                                                                    refine z_sld CL dL_law_1999 hf (fun x391 hf => ?_)
                                                                    refine z_aload_n C dL_law_2000 3 rfl rfl ?_
                                                                    obtain ⟨x393, h394, g392, hf⟩ := zbind2 hf
                                                                    refine z_callW (kc' := k * 5 + 3) (ks' := k * 30 + 18) CL (ML_restore (xl X) CL.2.2.2.1 (xD X) (xT X) (xlo X) hi g392) cw_L_211 ys_L_restore dL_law_2001 rfl (by decide) ⟨by show 2 + _ = _; omega, by show 12 + _ = _; omega⟩ (Nat.le_of_ble_eq_true rfl) (st := []) rfl ?_
                                                                    refine z_istore C dL_law_2004 (by decide) (lv' := [(5, .int x393), (0, .ref bs), (1, .ref y1), (2, .ref y2), (3, .ref y3), (4, .int x10)]) rfl ?_
                                                                    refine z_aload_n C dL_law_2006 3 rfl rfl ?_
                                                                    refine z_aload_n C dL_law_2007 1 rfl rfl ?_
                                                                    refine z_iload C dL_law_2008 5 rfl ?_
                                                                    refine z_iconst C (v := 1) dL_law_2010 (by decide) ?_
                                                                    refine z_iadd C dL_law_2011 ?_
                                                                    refine z_sld CL dL_law_2012 hf (fun x395 hf => ?_)
                                                                    obtain ⟨x397, h398, g396, hf⟩ := zbind2 hf
                                                                    refine z_callV C (MX7_restore (xl X) (xD X) (xT X) (xlo X) false hi g396) (OX7_restore g396) rfl cw_L_213 yv_X7_restore dL_law_2013 rfl (by decide) ⟨Nat.zero_add _, Nat.zero_add _⟩ (Nat.le_of_ble_eq_true rfl) (st := []) rfl ?_
                                                                    refine z_istore C dL_law_2016 (by decide) (lv' := [(6, .int x397), (5, .int x393), (0, .ref bs), (1, .ref y1), (2, .ref y2), (3, .ref y3), (4, .int x10)]) rfl ?_
                                                                    refine z_aload_n C dL_law_2018 4 rfl rfl ?_
                                                                    obtain ⟨x400, g399, hf⟩ := zbind hf
                                                                    refine z_callV C (MX7_thrown (xl X) (xD X) (xT X) (xlo X) false hi g399) (OX7_thrown g399) rfl cw_L_109 yv_X7_thrown dL_law_2019 rfl (by decide) ⟨Nat.zero_add _, Nat.zero_add _⟩ (Nat.le_of_ble_eq_true rfl) (st := []) rfl ?_
                                                                    refine z_iload C dL_law_2022 1 rfl ?_
                                                                    refine z_icmp_eq (tgt := 2029) C dL_law_2024 (by decide) hf (fun hf => ?_) (fun hf => ?_)
                                                                    · refine z_join (P := fun J => ∀ (u9 : Unit), J u9 = some r9 → zW X 7 Z (k * 5) (k * 30) false hi h398 2046 [(0, .ref bs), (1, .ref y1), (2, .ref y2), (3, .ref y3), (4, .int x10)] []) hf ?_ ?_
                                                                      · intro u9 hf
                                                                        refine z_goto (tgt := 2049) C dL_law_2046 (by decide) ?_
                                                                        refine z_less (kc' := k * 5) (ks' := k * 30) (by omega) (by omega) ?_
                                                                        exact kJ13 _ hf
                                                                      · intro J401 kJ401 hf
                                                                        refine z_iload C dL_law_2029 1 rfl ?_
                                                                        refine z_if_ne (tgt := 2046) C dL_law_2031 (by decide) hf (fun hf => ?_) (fun hf => ?_)
                                                                        · refine z_less (kc' := k * 5) (ks' := k * 30) (by omega) (by omega) ?_
                                                                          refine z_sub [2, 3, 4, 5, 6] rfl ?_
                                                                          exact kJ401 _ hf
                                                                        · refine z_aload_n C dL_law_2034 5 rfl rfl ?_
                                                                          refine z_iconst C (v := 0) dL_law_2035 (by decide) ?_
                                                                          refine z_laload C dL_law_2036 hf (fun x402 hf => ?_)
                                                                          refine z_iload C dL_law_2037 0 rfl ?_
                                                                          refine z_i2l C dL_law_2039 ?_
                                                                          refine z_lcmp C dL_law_2040 ?_
                                                                          refine z_if_eq (tgt := 2046) C dL_law_2041 (by decide) hf (fun hf => ?_) (fun hf => ?_)
                                                                          · refine z_less (kc' := k * 5) (ks' := k * 30) (by omega) (by omega) ?_
                                                                            refine z_sub [2, 3, 4, 5, 6] rfl ?_
                                                                            exact kJ401 _ hf
                                                                          · exact nomatch hf
                                                                    · exact nomatch hf
                                                                  · refine z_tswOut (tgt := 2049) C dL_law_40 (by have e0 := z_ne (i := 0) (by decide) c0; have e1 := z_ne (i := 1) (by decide) c1; have e2 := z_ne (i := 2) (by decide) c2; have e3 := z_ne (i := 3) (by decide) c3; have e4 := z_ne (i := 4) (by decide) c4; have e5 := z_ne (i := 5) (by decide) c5; have e6 := z_ne (i := 6) (by decide) c6; have e7 := z_ne (i := 7) (by decide) c7; have e8 := z_ne (i := 8) (by decide) c8; have e9 := z_ne (i := 9) (by decide) c9; have e10 := z_ne (i := 10) (by decide) c10; have e11 := z_ne (i := 11) (by decide) c11; have e12 := z_ne (i := 12) (by decide) c12; have e13 := z_ne (i := 13) (by decide) c13; have e14 := z_ne (i := 14) (by decide) c14; have e15 := z_ne (i := 15) (by decide) c15; have e16 := z_ne (i := 16) (by decide) c16; have e17 := z_ne (i := 17) (by decide) c17; have e18 := z_ne (i := 18) (by decide) c18; have e19 := z_ne (i := 19) (by decide) c19; have e20 := z_ne (i := 20) (by decide) c20; have e21 := z_ne (i := 21) (by decide) c21; have e22 := z_ne (i := 22) (by decide) c22; have e23 := z_ne (i := 23) (by decide) c23; have e24 := z_ne (i := 24) (by decide) c24; have e25 := z_ne (i := 25) (by decide) c25; have e26 := z_ne (i := 26) (by decide) c26; have e27 := z_ne (i := 27) (by decide) c27; have e28 := z_ne (i := 28) (by decide) c28; have e29 := z_ne (i := 29) (by decide) c29; omega) (by decide) ?_
                                                                    refine z_less (kc' := k * 5) (ks' := k * 30) (by omega) (by omega) ?_
                                                                    exact kJ13 _ hf
def FL_law (T : zT) (xv : Nat → Int32) (L : Nat) (hi : Nat) (h : zH) : Option Int32 := (znw h hi 6 [.null, .int 0, .null, .null, .null, .null, .null, .null, .null, .null, .null, .null]).bind fun h1 => zb2 (FX6_init T hi (hi + 1) h1) fun i3 h4 => (znw h4 i3 7 [.int 0, .null, .int 0, .int 0, .null, .null, .null, .null, .null, .int 0, .null, .null, .null, .null, .null, .int 0, .int 0, .null, .null]).bind fun h5 => zb2 (FX7_init T i3 (i3 + 1) h5) fun i7 h8 => (znl T.2.1 h8 i7 1).bind fun h9 => LL_law_23 T xv L hi i3 i7 FUEL 0 h9
set_option maxHeartbeats 4000000 in
set_option maxRecDepth 100000 in
theorem BL_law {X : zX} {bs L : Nat} {xv : Nat → Int32} (CL : zLC X 9 215 bs L xv) {Z : State → Prop} {hi : Nat} {h : zH} {r9 : Int32} (hret : ∀ kc ks hi h lv al, zW X 7 Z kc ks al hi h 2055 lv []) (hf : FL_law (xT X) xv L hi h = some r9) : zW X 7 Z 601024 7293034 true hi h 0 [(0, .ref bs)] [] := by
  have C := CL.1
  unfold FL_law at hf
  refine z_newf (kc' := 601023) (ks' := 7293022) C ni_L_8 rfl dL_law_0 ⟨by decide, by decide⟩ hf (fun h1 hf => ?_)
  refine z_dup C dL_law_3 rfl ?_
  obtain ⟨i3, h4, g2, hf⟩ := zbind2 hf
  refine z_callI (kc' := 600670) (ks' := 7277985) C (MX6_init (xl X) (xD X) (xT X) (xlo X) (hi + 1) g2) cw_L_99 mw_47 mw_65 mw_66 rfl ys_X6_init dL_law_4 rfl (by decide) ⟨by decide, by decide⟩ (Nat.le_of_ble_eq_true rfl) (st := [.ref hi]) rfl ?_
  refine z_astore_n C dL_law_7 rfl (by decide) (lv' := [(1, .ref hi), (0, .ref bs)]) rfl ?_
  refine z_newf (kc' := 600669) (ks' := 7277966) C ni_L_100 rfl dL_law_8 ⟨by decide, by decide⟩ hf (fun h5 hf => ?_)
  refine z_dup C dL_law_11 rfl ?_
  obtain ⟨i7, h8, g6, hf⟩ := zbind2 hf
  refine z_callI (kc' := 600656) (ks' := 7262657) C (MX7_init (xl X) (xD X) (xT X) (xlo X) (i3 + 1) g6) cw_L_102 mw_54 mw_973 mw_974 rfl ys_X7_init dL_law_12 rfl (by decide) ⟨by decide, by decide⟩ (Nat.le_of_ble_eq_true rfl) (st := [.ref i3]) rfl ?_
  refine z_astore_n C dL_law_15 rfl (by decide) (lv' := [(2, .ref i3), (1, .ref hi), (0, .ref bs)]) rfl ?_
  refine z_iconst C (v := 1) dL_law_16 (by decide) ?_
  refine z_newarray_long (kc' := 600655) (ks' := 7262656) C mw_1333 rfl dL_law_17 ⟨by decide, by decide⟩ hf (fun h9 hf => ?_)
  refine z_astore_n C dL_law_19 rfl (by decide) (lv' := [(3, .ref i7), (2, .ref i3), (1, .ref hi), (0, .ref bs)]) rfl ?_
  refine z_iconst C (v := 0) dL_law_20 (by decide) ?_
  refine z_istore C dL_law_21 (by decide) (lv' := [(4, .int 0), (3, .ref i7), (2, .ref i3), (1, .ref hi), (0, .ref bs)]) rfl ?_
  refine z_al ?_
  refine z_less (kc' := FUEL * 5) (ks' := FUEL * 30) (Nat.le_of_ble_eq_true rfl) (Nat.le_of_ble_eq_true rfl) ?_
  refine z_sub [4, 3, 2, 1, 0] rfl ?_
  exact LL_law_23_ok CL hret FUEL _ _ hf
