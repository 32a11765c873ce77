theorem mw_288 : (Jvm.Cond.classLink "CrossedSheetLaw" (16 : Nat) "java/lang/IllegalArgumentException") ∈ TW := TWm 288 (by decide +kernel) (by decide +kernel)
theorem mw_289 : (Jvm.Cond.methodLink "CrossedSheetLaw" (30 : Nat) ({ cls := "CrossedSheet", name := "simulate", desc := "(JI)I" } : Jvm.MethodName)) ∈ TW := TWm 289 (by decide +kernel) (by decide +kernel)
theorem mw_290 : (Jvm.Cond.instanceMethod ({ cls := "CrossedSheet", name := "simulate", desc := "(JI)I" } : Jvm.MethodName)) ∈ TW := TWm 290 (by decide +kernel) (by decide +kernel)
theorem mw_291 : (Jvm.Cond.selects "CrossedSheet" ({ cls := "CrossedSheet", name := "simulate", desc := "(JI)I" } : Jvm.MethodName) ({ cls := "CrossedSheet", name := "simulate", desc := "(JI)I" } : Jvm.MethodName)) ∈ TW := TWm 291 (by decide +kernel) (by decide +kernel)
theorem mw_292 : (Jvm.Cond.code ({ cls := "CrossedSheet", name := "simulate", desc := "(JI)I" } : Jvm.MethodName) prog_1_method_29_code (7 : Nat) (Option.some Jvm.ClassFile.FieldType.int)) ∈ TW := TWm 292 (by decide +kernel) (by decide +kernel)
theorem mw_467 : (Jvm.Cond.constant "CrossedSheetLaw" (18 : Nat) (-9999002 : Int32)) ∈ TW := TWm 467 (by decide +kernel) (by decide +kernel)
theorem mw_486 : (Jvm.Cond.classLink "CrossedSheetLaw" (19 : Nat) "java/lang/IllegalStateException") ∈ TW := TWm 486 (by decide +kernel) (by decide +kernel)
theorem mw_487 : (Jvm.Cond.methodLink "CrossedSheetLaw" (34 : Nat) ({ cls := "CrossedSheet", name := "append", desc := "(I)I" } : Jvm.MethodName)) ∈ TW := TWm 487 (by decide +kernel) (by decide +kernel)
theorem mw_488 : (Jvm.Cond.instanceMethod ({ cls := "CrossedSheet", name := "append", desc := "(I)I" } : Jvm.MethodName)) ∈ TW := TWm 488 (by decide +kernel) (by decide +kernel)
theorem mw_489 : (Jvm.Cond.selects "CrossedSheet" ({ cls := "CrossedSheet", name := "append", desc := "(I)I" } : Jvm.MethodName) ({ cls := "CrossedSheet", name := "append", desc := "(I)I" } : Jvm.MethodName)) ∈ TW := TWm 489 (by decide +kernel) (by decide +kernel)
theorem mw_490 : (Jvm.Cond.code ({ cls := "CrossedSheet", name := "append", desc := "(I)I" } : Jvm.MethodName) prog_1_method_2_code (2 : Nat) (Option.some Jvm.ClassFile.FieldType.int)) ∈ TW := TWm 490 (by decide +kernel) (by decide +kernel)
theorem mw_508 : (Jvm.Cond.constant "CrossedSheetLaw" (21 : Nat) (-9999003 : Int32)) ∈ TW := TWm 508 (by decide +kernel) (by decide +kernel)
theorem mw_512 : (Jvm.Cond.methodLink "CrossedSheetLaw" (38 : Nat) ({ cls := "CrossedSheet", name := "load", desc := "()I" } : Jvm.MethodName)) ∈ TW := TWm 512 (by decide +kernel) (by decide +kernel)
theorem mw_513 : (Jvm.Cond.instanceMethod ({ cls := "CrossedSheet", name := "load", desc := "()I" } : Jvm.MethodName)) ∈ TW := TWm 513 (by decide +kernel) (by decide +kernel)
theorem mw_514 : (Jvm.Cond.selects "CrossedSheet" ({ cls := "CrossedSheet", name := "load", desc := "()I" } : Jvm.MethodName) ({ cls := "CrossedSheet", name := "load", desc := "()I" } : Jvm.MethodName)) ∈ TW := TWm 514 (by decide +kernel) (by decide +kernel)
theorem mw_515 : (Jvm.Cond.code ({ cls := "CrossedSheet", name := "load", desc := "()I" } : Jvm.MethodName) prog_1_method_5_code (1 : Nat) (Option.some Jvm.ClassFile.FieldType.int)) ∈ TW := TWm 515 (by decide +kernel) (by decide +kernel)
theorem mw_585 : (Jvm.Cond.methodLink "CrossedSheetLaw" (42 : Nat) ({ cls := "CrossedSheet", name := "about", desc := "(I)I" } : Jvm.MethodName)) ∈ TW := TWm 585 (by decide +kernel) (by decide +kernel)
theorem mw_586 : (Jvm.Cond.instanceMethod ({ cls := "CrossedSheet", name := "about", desc := "(I)I" } : Jvm.MethodName)) ∈ TW := TWm 586 (by decide +kernel) (by decide +kernel)
theorem mw_587 : (Jvm.Cond.selects "CrossedSheet" ({ cls := "CrossedSheet", name := "about", desc := "(I)I" } : Jvm.MethodName) ({ cls := "CrossedSheet", name := "about", desc := "(I)I" } : Jvm.MethodName)) ∈ TW := TWm 587 (by decide +kernel) (by decide +kernel)
theorem mw_588 : (Jvm.Cond.code ({ cls := "CrossedSheet", name := "about", desc := "(I)I" } : Jvm.MethodName) prog_1_method_6_code (2 : Nat) (Option.some Jvm.ClassFile.FieldType.int)) ∈ TW := TWm 588 (by decide +kernel) (by decide +kernel)
theorem mw_604 : (Jvm.Cond.classLink "CrossedSheetLaw" (13 : Nat) "java/lang/IndexOutOfBoundsException") ∈ TW := TWm 604 (by decide +kernel) (by decide +kernel)
theorem mw_605 : (Jvm.Cond.methodLink "CrossedSheetLaw" (45 : Nat) ({ cls := "CrossedSheet", name := "letter", desc := "(II)I" } : Jvm.MethodName)) ∈ TW := TWm 605 (by decide +kernel) (by decide +kernel)
theorem mw_606 : (Jvm.Cond.instanceMethod ({ cls := "CrossedSheet", name := "letter", desc := "(II)I" } : Jvm.MethodName)) ∈ TW := TWm 606 (by decide +kernel) (by decide +kernel)
theorem mw_607 : (Jvm.Cond.selects "CrossedSheet" ({ cls := "CrossedSheet", name := "letter", desc := "(II)I" } : Jvm.MethodName) ({ cls := "CrossedSheet", name := "letter", desc := "(II)I" } : Jvm.MethodName)) ∈ TW := TWm 607 (by decide +kernel) (by decide +kernel)
theorem mw_608 : (Jvm.Cond.code ({ cls := "CrossedSheet", name := "letter", desc := "(II)I" } : Jvm.MethodName) prog_1_method_7_code (3 : Nat) (Option.some Jvm.ClassFile.FieldType.int)) ∈ TW := TWm 608 (by decide +kernel) (by decide +kernel)
theorem mw_644 : (Jvm.Cond.constant "CrossedSheetLaw" (15 : Nat) (-9999001 : Int32)) ∈ TW := TWm 644 (by decide +kernel) (by decide +kernel)
theorem mw_648 : (Jvm.Cond.methodLink "CrossedSheetLaw" (49 : Nat) ({ cls := "CrossedSheet", name := "marks", desc := "(II)I" } : Jvm.MethodName)) ∈ TW := TWm 648 (by decide +kernel) (by decide +kernel)
theorem mw_649 : (Jvm.Cond.instanceMethod ({ cls := "CrossedSheet", name := "marks", desc := "(II)I" } : Jvm.MethodName)) ∈ TW := TWm 649 (by decide +kernel) (by decide +kernel)
theorem mw_650 : (Jvm.Cond.selects "CrossedSheet" ({ cls := "CrossedSheet", name := "marks", desc := "(II)I" } : Jvm.MethodName) ({ cls := "CrossedSheet", name := "marks", desc := "(II)I" } : Jvm.MethodName)) ∈ TW := TWm 650 (by decide +kernel) (by decide +kernel)
theorem mw_651 : (Jvm.Cond.code ({ cls := "CrossedSheet", name := "marks", desc := "(II)I" } : Jvm.MethodName) prog_1_method_8_code (3 : Nat) (Option.some Jvm.ClassFile.FieldType.int)) ∈ TW := TWm 651 (by decide +kernel) (by decide +kernel)
theorem mw_662 : (Jvm.Cond.methodLink "CrossedSheetLaw" (52 : Nat) ({ cls := "CrossedSheet", name := "mark", desc := "(IIII)I" } : Jvm.MethodName)) ∈ TW := TWm 662 (by decide +kernel) (by decide +kernel)
theorem mw_663 : (Jvm.Cond.instanceMethod ({ cls := "CrossedSheet", name := "mark", desc := "(IIII)I" } : Jvm.MethodName)) ∈ TW := TWm 663 (by decide +kernel) (by decide +kernel)
theorem mw_664 : (Jvm.Cond.selects "CrossedSheet" ({ cls := "CrossedSheet", name := "mark", desc := "(IIII)I" } : Jvm.MethodName) ({ cls := "CrossedSheet", name := "mark", desc := "(IIII)I" } : Jvm.MethodName)) ∈ TW := TWm 664 (by decide +kernel) (by decide +kernel)
theorem mw_665 : (Jvm.Cond.code ({ cls := "CrossedSheet", name := "mark", desc := "(IIII)I" } : Jvm.MethodName) prog_1_method_9_code (6 : Nat) (Option.some Jvm.ClassFile.FieldType.int)) ∈ TW := TWm 665 (by decide +kernel) (by decide +kernel)
theorem mw_685 : (Jvm.Cond.methodLink "CrossedSheetLaw" (56 : Nat) ({ cls := "CrossedSheet", name := "wordLength", desc := "(II)I" } : Jvm.MethodName)) ∈ TW := TWm 685 (by decide +kernel) (by decide +kernel)
theorem mw_686 : (Jvm.Cond.instanceMethod ({ cls := "CrossedSheet", name := "wordLength", desc := "(II)I" } : Jvm.MethodName)) ∈ TW := TWm 686 (by decide +kernel) (by decide +kernel)
theorem mw_687 : (Jvm.Cond.selects "CrossedSheet" ({ cls := "CrossedSheet", name := "wordLength", desc := "(II)I" } : Jvm.MethodName) ({ cls := "CrossedSheet", name := "wordLength", desc := "(II)I" } : Jvm.MethodName)) ∈ TW := TWm 687 (by decide +kernel) (by decide +kernel)
theorem mw_688 : (Jvm.Cond.code ({ cls := "CrossedSheet", name := "wordLength", desc := "(II)I" } : Jvm.MethodName) prog_1_method_10_code (3 : Nat) (Option.some Jvm.ClassFile.FieldType.int)) ∈ TW := TWm 688 (by decide +kernel) (by decide +kernel)
theorem mw_699 : (Jvm.Cond.methodLink "CrossedSheetLaw" (59 : Nat) ({ cls := "CrossedSheet", name := "sign", desc := "(III)I" } : Jvm.MethodName)) ∈ TW := TWm 699 (by decide +kernel) (by decide +kernel)
theorem mw_700 : (Jvm.Cond.instanceMethod ({ cls := "CrossedSheet", name := "sign", desc := "(III)I" } : Jvm.MethodName)) ∈ TW := TWm 700 (by decide +kernel) (by decide +kernel)
theorem mw_701 : (Jvm.Cond.selects "CrossedSheet" ({ cls := "CrossedSheet", name := "sign", desc := "(III)I" } : Jvm.MethodName) ({ cls := "CrossedSheet", name := "sign", desc := "(III)I" } : Jvm.MethodName)) ∈ TW := TWm 701 (by decide +kernel) (by decide +kernel)
theorem mw_702 : (Jvm.Cond.code ({ cls := "CrossedSheet", name := "sign", desc := "(III)I" } : Jvm.MethodName) prog_1_method_11_code (4 : Nat) (Option.some Jvm.ClassFile.FieldType.int)) ∈ TW := TWm 702 (by decide +kernel) (by decide +kernel)
theorem mw_711 : (Jvm.Cond.methodLink "CrossedSheetLaw" (63 : Nat) ({ cls := "CrossedSheet", name := "wordAt", desc := "(III)I" } : Jvm.MethodName)) ∈ TW := TWm 711 (by decide +kernel) (by decide +kernel)
theorem mw_712 : (Jvm.Cond.instanceMethod ({ cls := "CrossedSheet", name := "wordAt", desc := "(III)I" } : Jvm.MethodName)) ∈ TW := TWm 712 (by decide +kernel) (by decide +kernel)
theorem mw_713 : (Jvm.Cond.selects "CrossedSheet" ({ cls := "CrossedSheet", name := "wordAt", desc := "(III)I" } : Jvm.MethodName) ({ cls := "CrossedSheet", name := "wordAt", desc := "(III)I" } : Jvm.MethodName)) ∈ TW := TWm 713 (by decide +kernel) (by decide +kernel)
theorem mw_714 : (Jvm.Cond.code ({ cls := "CrossedSheet", name := "wordAt", desc := "(III)I" } : Jvm.MethodName) prog_1_method_12_code (4 : Nat) (Option.some Jvm.ClassFile.FieldType.int)) ∈ TW := TWm 714 (by decide +kernel) (by decide +kernel)
theorem mw_718 : (Jvm.Cond.methodLink "CrossedSheetLaw" (66 : Nat) ({ cls := "CrossedSheet", name := "erase", desc := "(III)I" } : Jvm.MethodName)) ∈ TW := TWm 718 (by decide +kernel) (by decide +kernel)
theorem mw_719 : (Jvm.Cond.instanceMethod ({ cls := "CrossedSheet", name := "erase", desc := "(III)I" } : Jvm.MethodName)) ∈ TW := TWm 719 (by decide +kernel) (by decide +kernel)
theorem mw_720 : (Jvm.Cond.selects "CrossedSheet" ({ cls := "CrossedSheet", name := "erase", desc := "(III)I" } : Jvm.MethodName) ({ cls := "CrossedSheet", name := "erase", desc := "(III)I" } : Jvm.MethodName)) ∈ TW := TWm 720 (by decide +kernel) (by decide +kernel)
theorem mw_721 : (Jvm.Cond.code ({ cls := "CrossedSheet", name := "erase", desc := "(III)I" } : Jvm.MethodName) prog_1_method_14_code (5 : Nat) (Option.some Jvm.ClassFile.FieldType.int)) ∈ TW := TWm 721 (by decide +kernel) (by decide +kernel)
theorem mw_742 : (Jvm.Cond.methodLink "CrossedSheetLaw" (69 : Nat) ({ cls := "CrossedSheet", name := "decide", desc := "(IIII)I" } : Jvm.MethodName)) ∈ TW := TWm 742 (by decide +kernel) (by decide +kernel)
theorem mw_743 : (Jvm.Cond.instanceMethod ({ cls := "CrossedSheet", name := "decide", desc := "(IIII)I" } : Jvm.MethodName)) ∈ TW := TWm 743 (by decide +kernel) (by decide +kernel)
theorem mw_744 : (Jvm.Cond.selects "CrossedSheet" ({ cls := "CrossedSheet", name := "decide", desc := "(IIII)I" } : Jvm.MethodName) ({ cls := "CrossedSheet", name := "decide", desc := "(IIII)I" } : Jvm.MethodName)) ∈ TW := TWm 744 (by decide +kernel) (by decide +kernel)
theorem mw_745 : (Jvm.Cond.code ({ cls := "CrossedSheet", name := "decide", desc := "(IIII)I" } : Jvm.MethodName) prog_1_method_15_code (5 : Nat) (Option.some Jvm.ClassFile.FieldType.int)) ∈ TW := TWm 745 (by decide +kernel) (by decide +kernel)
theorem mw_762 : (Jvm.Cond.methodLink "CrossedSheetLaw" (72 : Nat) ({ cls := "CrossedSheet", name := "setLetter", desc := "(IIII)I" } : Jvm.MethodName)) ∈ TW := TWm 762 (by decide +kernel) (by decide +kernel)
theorem mw_763 : (Jvm.Cond.instanceMethod ({ cls := "CrossedSheet", name := "setLetter", desc := "(IIII)I" } : Jvm.MethodName)) ∈ TW := TWm 763 (by decide +kernel) (by decide +kernel)
theorem mw_764 : (Jvm.Cond.selects "CrossedSheet" ({ cls := "CrossedSheet", name := "setLetter", desc := "(IIII)I" } : Jvm.MethodName) ({ cls := "CrossedSheet", name := "setLetter", desc := "(IIII)I" } : Jvm.MethodName)) ∈ TW := TWm 764 (by decide +kernel) (by decide +kernel)
theorem mw_765 : (Jvm.Cond.code ({ cls := "CrossedSheet", name := "setLetter", desc := "(IIII)I" } : Jvm.MethodName) prog_1_method_16_code (5 : Nat) (Option.some Jvm.ClassFile.FieldType.int)) ∈ TW := TWm 765 (by decide +kernel) (by decide +kernel)
theorem mw_770 : (Jvm.Cond.methodLink "CrossedSheetLaw" (75 : Nat) ({ cls := "CrossedSheet", name := "setMargin", desc := "(I)I" } : Jvm.MethodName)) ∈ TW := TWm 770 (by decide +kernel) (by decide +kernel)
theorem mw_771 : (Jvm.Cond.instanceMethod ({ cls := "CrossedSheet", name := "setMargin", desc := "(I)I" } : Jvm.MethodName)) ∈ TW := TWm 771 (by decide +kernel) (by decide +kernel)
theorem mw_772 : (Jvm.Cond.selects "CrossedSheet" ({ cls := "CrossedSheet", name := "setMargin", desc := "(I)I" } : Jvm.MethodName) ({ cls := "CrossedSheet", name := "setMargin", desc := "(I)I" } : Jvm.MethodName)) ∈ TW := TWm 772 (by decide +kernel) (by decide +kernel)
theorem mw_773 : (Jvm.Cond.code ({ cls := "CrossedSheet", name := "setMargin", desc := "(I)I" } : Jvm.MethodName) prog_1_method_17_code (3 : Nat) (Option.some Jvm.ClassFile.FieldType.int)) ∈ TW := TWm 773 (by decide +kernel) (by decide +kernel)
theorem mw_777 : (Jvm.Cond.methodLink "CrossedSheetLaw" (78 : Nat) ({ cls := "CrossedSheet", name := "setGap", desc := "(I)I" } : Jvm.MethodName)) ∈ TW := TWm 777 (by decide +kernel) (by decide +kernel)
theorem mw_778 : (Jvm.Cond.instanceMethod ({ cls := "CrossedSheet", name := "setGap", desc := "(I)I" } : Jvm.MethodName)) ∈ TW := TWm 778 (by decide +kernel) (by decide +kernel)
theorem mw_779 : (Jvm.Cond.selects "CrossedSheet" ({ cls := "CrossedSheet", name := "setGap", desc := "(I)I" } : Jvm.MethodName) ({ cls := "CrossedSheet", name := "setGap", desc := "(I)I" } : Jvm.MethodName)) ∈ TW := TWm 779 (by decide +kernel) (by decide +kernel)
theorem mw_780 : (Jvm.Cond.code ({ cls := "CrossedSheet", name := "setGap", desc := "(I)I" } : Jvm.MethodName) prog_1_method_18_code (3 : Nat) (Option.some Jvm.ClassFile.FieldType.int)) ∈ TW := TWm 780 (by decide +kernel) (by decide +kernel)
theorem mw_784 : (Jvm.Cond.methodLink "CrossedSheetLaw" (81 : Nat) ({ cls := "CrossedSheet", name := "undo", desc := "()I" } : Jvm.MethodName)) ∈ TW := TWm 784 (by decide +kernel) (by decide +kernel)
theorem mw_785 : (Jvm.Cond.instanceMethod ({ cls := "CrossedSheet", name := "undo", desc := "()I" } : Jvm.MethodName)) ∈ TW := TWm 785 (by decide +kernel) (by decide +kernel)
theorem mw_786 : (Jvm.Cond.selects "CrossedSheet" ({ cls := "CrossedSheet", name := "undo", desc := "()I" } : Jvm.MethodName) ({ cls := "CrossedSheet", name := "undo", desc := "()I" } : Jvm.MethodName)) ∈ TW := TWm 786 (by decide +kernel) (by decide +kernel)
theorem mw_787 : (Jvm.Cond.code ({ cls := "CrossedSheet", name := "undo", desc := "()I" } : Jvm.MethodName) prog_1_method_20_code (1 : Nat) (Option.some Jvm.ClassFile.FieldType.int)) ∈ TW := TWm 787 (by decide +kernel) (by decide +kernel)
theorem mw_805 : (Jvm.Cond.methodLink "CrossedSheetLaw" (84 : Nat) ({ cls := "CrossedSheet", name := "count", desc := "(II)I" } : Jvm.MethodName)) ∈ TW := TWm 805 (by decide +kernel) (by decide +kernel)
theorem mw_806 : (Jvm.Cond.instanceMethod ({ cls := "CrossedSheet", name := "count", desc := "(II)I" } : Jvm.MethodName)) ∈ TW := TWm 806 (by decide +kernel) (by decide +kernel)
theorem mw_807 : (Jvm.Cond.selects "CrossedSheet" ({ cls := "CrossedSheet", name := "count", desc := "(II)I" } : Jvm.MethodName) ({ cls := "CrossedSheet", name := "count", desc := "(II)I" } : Jvm.MethodName)) ∈ TW := TWm 807 (by decide +kernel) (by decide +kernel)
theorem mw_808 : (Jvm.Cond.code ({ cls := "CrossedSheet", name := "count", desc := "(II)I" } : Jvm.MethodName) prog_1_method_23_code (3 : Nat) (Option.some Jvm.ClassFile.FieldType.int)) ∈ TW := TWm 808 (by decide +kernel) (by decide +kernel)
theorem mw_816 : (Jvm.Cond.methodLink "CrossedSheetLaw" (87 : Nat) ({ cls := "CrossedSheet", name := "bestPen", desc := "(I)I" } : Jvm.MethodName)) ∈ TW := TWm 816 (by decide +kernel) (by decide +kernel)
theorem mw_817 : (Jvm.Cond.instanceMethod ({ cls := "CrossedSheet", name := "bestPen", desc := "(I)I" } : Jvm.MethodName)) ∈ TW := TWm 817 (by decide +kernel) (by decide +kernel)
theorem mw_818 : (Jvm.Cond.selects "CrossedSheet" ({ cls := "CrossedSheet", name := "bestPen", desc := "(I)I" } : Jvm.MethodName) ({ cls := "CrossedSheet", name := "bestPen", desc := "(I)I" } : Jvm.MethodName)) ∈ TW := TWm 818 (by decide +kernel) (by decide +kernel)
theorem mw_819 : (Jvm.Cond.code ({ cls := "CrossedSheet", name := "bestPen", desc := "(I)I" } : Jvm.MethodName) prog_1_method_24_code (7 : Nat) (Option.some Jvm.ClassFile.FieldType.int)) ∈ TW := TWm 819 (by decide +kernel) (by decide +kernel)
theorem mw_827 : (Jvm.Cond.methodLink "CrossedSheetLaw" (90 : Nat) ({ cls := "CrossedSheet", name := "bestDecision", desc := "(I)I" } : Jvm.MethodName)) ∈ TW := TWm 827 (by decide +kernel) (by decide +kernel)
theorem mw_828 : (Jvm.Cond.instanceMethod ({ cls := "CrossedSheet", name := "bestDecision", desc := "(I)I" } : Jvm.MethodName)) ∈ TW := TWm 828 (by decide +kernel) (by decide +kernel)
theorem mw_829 : (Jvm.Cond.selects "CrossedSheet" ({ cls := "CrossedSheet", name := "bestDecision", desc := "(I)I" } : Jvm.MethodName) ({ cls := "CrossedSheet", name := "bestDecision", desc := "(I)I" } : Jvm.MethodName)) ∈ TW := TWm 829 (by decide +kernel) (by decide +kernel)
theorem mw_830 : (Jvm.Cond.code ({ cls := "CrossedSheet", name := "bestDecision", desc := "(I)I" } : Jvm.MethodName) prog_1_method_26_code (8 : Nat) (Option.some Jvm.ClassFile.FieldType.int)) ∈ TW := TWm 830 (by decide +kernel) (by decide +kernel)
theorem mw_840 : (Jvm.Cond.methodLink "CrossedSheetLaw" (93 : Nat) ({ cls := "CrossedSheet", name := "wordsWith", desc := "(II)I" } : Jvm.MethodName)) ∈ TW := TWm 840 (by decide +kernel) (by decide +kernel)
theorem mw_841 : (Jvm.Cond.instanceMethod ({ cls := "CrossedSheet", name := "wordsWith", desc := "(II)I" } : Jvm.MethodName)) ∈ TW := TWm 841 (by decide +kernel) (by decide +kernel)
theorem mw_842 : (Jvm.Cond.selects "CrossedSheet" ({ cls := "CrossedSheet", name := "wordsWith", desc := "(II)I" } : Jvm.MethodName) ({ cls := "CrossedSheet", name := "wordsWith", desc := "(II)I" } : Jvm.MethodName)) ∈ TW := TWm 842 (by decide +kernel) (by decide +kernel)
theorem mw_843 : (Jvm.Cond.code ({ cls := "CrossedSheet", name := "wordsWith", desc := "(II)I" } : Jvm.MethodName) prog_1_method_27_code (3 : Nat) (Option.some Jvm.ClassFile.FieldType.int)) ∈ TW := TWm 843 (by decide +kernel) (by decide +kernel)
theorem mw_847 : (Jvm.Cond.methodLink "CrossedSheetLaw" (96 : Nat) ({ cls := "CrossedSheet", name := "save", desc := "(I)I" } : Jvm.MethodName)) ∈ TW := TWm 847 (by decide +kernel) (by decide +kernel)
theorem mw_848 : (Jvm.Cond.instanceMethod ({ cls := "CrossedSheet", name := "save", desc := "(I)I" } : Jvm.MethodName)) ∈ TW := TWm 848 (by decide +kernel) (by decide +kernel)
theorem mw_849 : (Jvm.Cond.selects "CrossedSheet" ({ cls := "CrossedSheet", name := "save", desc := "(I)I" } : Jvm.MethodName) ({ cls := "CrossedSheet", name := "save", desc := "(I)I" } : Jvm.MethodName)) ∈ TW := TWm 849 (by decide +kernel) (by decide +kernel)
theorem mw_850 : (Jvm.Cond.code ({ cls := "CrossedSheet", name := "save", desc := "(I)I" } : Jvm.MethodName) prog_1_method_30_code (2 : Nat) (Option.some Jvm.ClassFile.FieldType.int)) ∈ TW := TWm 850 (by decide +kernel) (by decide +kernel)
theorem mw_859 : (Jvm.Cond.methodLink "CrossedSheetLaw" (99 : Nat) ({ cls := "CrossedSheet", name := "restore", desc := "(I)I" } : Jvm.MethodName)) ∈ TW := TWm 859 (by decide +kernel) (by decide +kernel)
theorem mw_860 : (Jvm.Cond.instanceMethod ({ cls := "CrossedSheet", name := "restore", desc := "(I)I" } : Jvm.MethodName)) ∈ TW := TWm 860 (by decide +kernel) (by decide +kernel)
theorem mw_861 : (Jvm.Cond.selects "CrossedSheet" ({ cls := "CrossedSheet", name := "restore", desc := "(I)I" } : Jvm.MethodName) ({ cls := "CrossedSheet", name := "restore", desc := "(I)I" } : Jvm.MethodName)) ∈ TW := TWm 861 (by decide +kernel) (by decide +kernel)
theorem mw_862 : (Jvm.Cond.code ({ cls := "CrossedSheet", name := "restore", desc := "(I)I" } : Jvm.MethodName) prog_1_method_31_code (2 : Nat) (Option.some Jvm.ClassFile.FieldType.int)) ∈ TW := TWm 862 (by decide +kernel) (by decide +kernel)
theorem mw_875 : (Jvm.Cond.methodLink "CrossedSheetLaw" (22 : Nat) ({ cls := "CrossedSheet", name := "find", desc := "(IIJ)I" } : Jvm.MethodName)) ∈ TW := TWm 875 (by decide +kernel) (by decide +kernel)
theorem mw_876 : (Jvm.Cond.instanceMethod ({ cls := "CrossedSheet", name := "find", desc := "(IIJ)I" } : Jvm.MethodName)) ∈ TW := TWm 876 (by decide +kernel) (by decide +kernel)
theorem mw_877 : (Jvm.Cond.selects "CrossedSheet" ({ cls := "CrossedSheet", name := "find", desc := "(IIJ)I" } : Jvm.MethodName) ({ cls := "CrossedSheet", name := "find", desc := "(IIJ)I" } : Jvm.MethodName)) ∈ TW := TWm 877 (by decide +kernel) (by decide +kernel)
theorem mw_878 : (Jvm.Cond.code ({ cls := "CrossedSheet", name := "find", desc := "(IIJ)I" } : Jvm.MethodName) prog_1_method_21_code (6 : Nat) (Option.some Jvm.ClassFile.FieldType.int)) ∈ TW := TWm 878 (by decide +kernel) (by decide +kernel)
theorem mw_923 : (Jvm.Cond.methodLink "CrossedSheetLaw" (26 : Nat) ({ cls := "CrossedSheet", name := "runScript", desc := "(IJ)I" } : Jvm.MethodName)) ∈ TW := TWm 923 (by decide +kernel) (by decide +kernel)
theorem mw_924 : (Jvm.Cond.instanceMethod ({ cls := "CrossedSheet", name := "runScript", desc := "(IJ)I" } : Jvm.MethodName)) ∈ TW := TWm 924 (by decide +kernel) (by decide +kernel)
theorem mw_925 : (Jvm.Cond.selects "CrossedSheet" ({ cls := "CrossedSheet", name := "runScript", desc := "(IJ)I" } : Jvm.MethodName) ({ cls := "CrossedSheet", name := "runScript", desc := "(IJ)I" } : Jvm.MethodName)) ∈ TW := TWm 925 (by decide +kernel) (by decide +kernel)
theorem mw_926 : (Jvm.Cond.code ({ cls := "CrossedSheet", name := "runScript", desc := "(IJ)I" } : Jvm.MethodName) prog_1_method_28_code (5 : Nat) (Option.some Jvm.ClassFile.FieldType.int)) ∈ TW := TWm 926 (by decide +kernel) (by decide +kernel)
theorem mw_975 : (Jvm.Cond.methodLink "CrossedSheetLaw" (7 : Nat) ({ cls := "CrossedSheet", name := "write", desc := "(IIIII)I" } : Jvm.MethodName)) ∈ TW := TWm 975 (by decide +kernel) (by decide +kernel)
theorem mw_976 : (Jvm.Cond.instanceMethod ({ cls := "CrossedSheet", name := "write", desc := "(IIIII)I" } : Jvm.MethodName)) ∈ TW := TWm 976 (by decide +kernel) (by decide +kernel)
theorem mw_977 : (Jvm.Cond.selects "CrossedSheet" ({ cls := "CrossedSheet", name := "write", desc := "(IIIII)I" } : Jvm.MethodName) ({ cls := "CrossedSheet", name := "write", desc := "(IIIII)I" } : Jvm.MethodName)) ∈ TW := TWm 977 (by decide +kernel) (by decide +kernel)
theorem mw_978 : (Jvm.Cond.code ({ cls := "CrossedSheet", name := "write", desc := "(IIIII)I" } : Jvm.MethodName) prog_1_method_13_code (7 : Nat) (Option.some Jvm.ClassFile.FieldType.int)) ∈ TW := TWm 978 (by decide +kernel) (by decide +kernel)
theorem yv_X6_about : yX6_about.cls = RX6 ∧ yX6_about.cls ≠ "java/lang/invoke/MethodHandle" ∧ yX6_about.cls ≠ "java/lang/invoke/VarHandle" ∧ (parseMethodDescriptor yX6_about.desc).map (fun d => d.parameters.length) = some 1 := by decide +kernel
theorem yv_X6_append : yX6_append.cls = RX6 ∧ yX6_append.cls ≠ "java/lang/invoke/MethodHandle" ∧ yX6_append.cls ≠ "java/lang/invoke/VarHandle" ∧ (parseMethodDescriptor yX6_append.desc).map (fun d => d.parameters.length) = some 1 := by decide +kernel
theorem yv_X6_bestDecision : yX6_bestDecision.cls = RX6 ∧ yX6_bestDecision.cls ≠ "java/lang/invoke/MethodHandle" ∧ yX6_bestDecision.cls ≠ "java/lang/invoke/VarHandle" ∧ (parseMethodDescriptor yX6_bestDecision.desc).map (fun d => d.parameters.length) = some 1 := by decide +kernel
theorem yv_X6_bestPen : yX6_bestPen.cls = RX6 ∧ yX6_bestPen.cls ≠ "java/lang/invoke/MethodHandle" ∧ yX6_bestPen.cls ≠ "java/lang/invoke/VarHandle" ∧ (parseMethodDescriptor yX6_bestPen.desc).map (fun d => d.parameters.length) = some 1 := by decide +kernel
theorem yv_X6_count : yX6_count.cls = RX6 ∧ yX6_count.cls ≠ "java/lang/invoke/MethodHandle" ∧ yX6_count.cls ≠ "java/lang/invoke/VarHandle" ∧ (parseMethodDescriptor yX6_count.desc).map (fun d => d.parameters.length) = some 2 := by decide +kernel
theorem yv_X6_decide : yX6_decide.cls = RX6 ∧ yX6_decide.cls ≠ "java/lang/invoke/MethodHandle" ∧ yX6_decide.cls ≠ "java/lang/invoke/VarHandle" ∧ (parseMethodDescriptor yX6_decide.desc).map (fun d => d.parameters.length) = some 4 := by decide +kernel
theorem yv_X6_erase : yX6_erase.cls = RX6 ∧ yX6_erase.cls ≠ "java/lang/invoke/MethodHandle" ∧ yX6_erase.cls ≠ "java/lang/invoke/VarHandle" ∧ (parseMethodDescriptor yX6_erase.desc).map (fun d => d.parameters.length) = some 3 := by decide +kernel
theorem yv_X6_find : yX6_find.cls = RX6 ∧ yX6_find.cls ≠ "java/lang/invoke/MethodHandle" ∧ yX6_find.cls ≠ "java/lang/invoke/VarHandle" ∧ (parseMethodDescriptor yX6_find.desc).map (fun d => d.parameters.length) = some 3 := by decide +kernel
theorem yv_X6_letter : yX6_letter.cls = RX6 ∧ yX6_letter.cls ≠ "java/lang/invoke/MethodHandle" ∧ yX6_letter.cls ≠ "java/lang/invoke/VarHandle" ∧ (parseMethodDescriptor yX6_letter.desc).map (fun d => d.parameters.length) = some 2 := by decide +kernel
theorem yv_X6_load : yX6_load.cls = RX6 ∧ yX6_load.cls ≠ "java/lang/invoke/MethodHandle" ∧ yX6_load.cls ≠ "java/lang/invoke/VarHandle" ∧ (parseMethodDescriptor yX6_load.desc).map (fun d => d.parameters.length) = some 0 := by decide +kernel
theorem yv_X6_mark : yX6_mark.cls = RX6 ∧ yX6_mark.cls ≠ "java/lang/invoke/MethodHandle" ∧ yX6_mark.cls ≠ "java/lang/invoke/VarHandle" ∧ (parseMethodDescriptor yX6_mark.desc).map (fun d => d.parameters.length) = some 4 := by decide +kernel
theorem yv_X6_marks : yX6_marks.cls = RX6 ∧ yX6_marks.cls ≠ "java/lang/invoke/MethodHandle" ∧ yX6_marks.cls ≠ "java/lang/invoke/VarHandle" ∧ (parseMethodDescriptor yX6_marks.desc).map (fun d => d.parameters.length) = some 2 := by decide +kernel
theorem yv_X6_restore : yX6_restore.cls = RX6 ∧ yX6_restore.cls ≠ "java/lang/invoke/MethodHandle" ∧ yX6_restore.cls ≠ "java/lang/invoke/VarHandle" ∧ (parseMethodDescriptor yX6_restore.desc).map (fun d => d.parameters.length) = some 1 := by decide +kernel
theorem yv_X6_runScript : yX6_runScript.cls = RX6 ∧ yX6_runScript.cls ≠ "java/lang/invoke/MethodHandle" ∧ yX6_runScript.cls ≠ "java/lang/invoke/VarHandle" ∧ (parseMethodDescriptor yX6_runScript.desc).map (fun d => d.parameters.length) = some 2 := by decide +kernel
theorem yv_X6_save : yX6_save.cls = RX6 ∧ yX6_save.cls ≠ "java/lang/invoke/MethodHandle" ∧ yX6_save.cls ≠ "java/lang/invoke/VarHandle" ∧ (parseMethodDescriptor yX6_save.desc).map (fun d => d.parameters.length) = some 1 := by decide +kernel
theorem yv_X6_setGap : yX6_setGap.cls = RX6 ∧ yX6_setGap.cls ≠ "java/lang/invoke/MethodHandle" ∧ yX6_setGap.cls ≠ "java/lang/invoke/VarHandle" ∧ (parseMethodDescriptor yX6_setGap.desc).map (fun d => d.parameters.length) = some 1 := by decide +kernel
theorem yv_X6_setLetter : yX6_setLetter.cls = RX6 ∧ yX6_setLetter.cls ≠ "java/lang/invoke/MethodHandle" ∧ yX6_setLetter.cls ≠ "java/lang/invoke/VarHandle" ∧ (parseMethodDescriptor yX6_setLetter.desc).map (fun d => d.parameters.length) = some 4 := by decide +kernel
theorem yv_X6_setMargin : yX6_setMargin.cls = RX6 ∧ yX6_setMargin.cls ≠ "java/lang/invoke/MethodHandle" ∧ yX6_setMargin.cls ≠ "java/lang/invoke/VarHandle" ∧ (parseMethodDescriptor yX6_setMargin.desc).map (fun d => d.parameters.length) = some 1 := by decide +kernel
theorem yv_X6_sign : yX6_sign.cls = RX6 ∧ yX6_sign.cls ≠ "java/lang/invoke/MethodHandle" ∧ yX6_sign.cls ≠ "java/lang/invoke/VarHandle" ∧ (parseMethodDescriptor yX6_sign.desc).map (fun d => d.parameters.length) = some 3 := by decide +kernel
theorem yv_X6_simulate : yX6_simulate.cls = RX6 ∧ yX6_simulate.cls ≠ "java/lang/invoke/MethodHandle" ∧ yX6_simulate.cls ≠ "java/lang/invoke/VarHandle" ∧ (parseMethodDescriptor yX6_simulate.desc).map (fun d => d.parameters.length) = some 2 := by decide +kernel
theorem yv_X6_undo : yX6_undo.cls = RX6 ∧ yX6_undo.cls ≠ "java/lang/invoke/MethodHandle" ∧ yX6_undo.cls ≠ "java/lang/invoke/VarHandle" ∧ (parseMethodDescriptor yX6_undo.desc).map (fun d => d.parameters.length) = some 0 := by decide +kernel
theorem yv_X6_wordAt : yX6_wordAt.cls = RX6 ∧ yX6_wordAt.cls ≠ "java/lang/invoke/MethodHandle" ∧ yX6_wordAt.cls ≠ "java/lang/invoke/VarHandle" ∧ (parseMethodDescriptor yX6_wordAt.desc).map (fun d => d.parameters.length) = some 3 := by decide +kernel
theorem yv_X6_wordLength : yX6_wordLength.cls = RX6 ∧ yX6_wordLength.cls ≠ "java/lang/invoke/MethodHandle" ∧ yX6_wordLength.cls ≠ "java/lang/invoke/VarHandle" ∧ (parseMethodDescriptor yX6_wordLength.desc).map (fun d => d.parameters.length) = some 2 := by decide +kernel
theorem yv_X6_wordsWith : yX6_wordsWith.cls = RX6 ∧ yX6_wordsWith.cls ≠ "java/lang/invoke/MethodHandle" ∧ yX6_wordsWith.cls ≠ "java/lang/invoke/VarHandle" ∧ (parseMethodDescriptor yX6_wordsWith.desc).map (fun d => d.parameters.length) = some 2 := by decide +kernel
theorem yv_X6_write : yX6_write.cls = RX6 ∧ yX6_write.cls ≠ "java/lang/invoke/MethodHandle" ∧ yX6_write.cls ≠ "java/lang/invoke/VarHandle" ∧ (parseMethodDescriptor yX6_write.desc).map (fun d => d.parameters.length) = some 5 := by decide +kernel
theorem cw_L_7 : GoodIn TW (wsV RL 7 RX6 yX6_write (.code yX6_write cX6_write 7 (some .int) :: TW)) := zGV mw_975 mw_976 mw_977 mw_26 mw_978
theorem cw_L_22 : GoodIn TW (wsV RL 22 RX6 yX6_find (.code yX6_find cX6_find 6 (some .int) :: TW)) := zGV mw_875 mw_876 mw_877 mw_26 mw_878
theorem cw_L_26 : GoodIn TW (wsV RL 26 RX6 yX6_runScript (.code yX6_runScript cX6_runScript 5 (some .int) :: TW)) := zGV mw_923 mw_924 mw_925 mw_26 mw_926
theorem cw_L_30 : GoodIn TW (wsV RL 30 RX6 yX6_simulate (.code yX6_simulate cX6_simulate 7 (some .int) :: TW)) := zGV mw_289 mw_290 mw_291 mw_26 mw_292
theorem cw_L_34 : GoodIn TW (wsV RL 34 RX6 yX6_append (.code yX6_append cX6_append 2 (some .int) :: TW)) := zGV mw_487 mw_488 mw_489 mw_26 mw_490
theorem cw_L_38 : GoodIn TW (wsV RL 38 RX6 yX6_load (.code yX6_load cX6_load 1 (some .int) :: TW)) := zGV mw_512 mw_513 mw_514 mw_26 mw_515
theorem cw_L_42 : GoodIn TW (wsV RL 42 RX6 yX6_about (.code yX6_about cX6_about 2 (some .int) :: TW)) := zGV mw_585 mw_586 mw_587 mw_26 mw_588
theorem cw_L_45 : GoodIn TW (wsV RL 45 RX6 yX6_letter (.code yX6_letter cX6_letter 3 (some .int) :: TW)) := zGV mw_605 mw_606 mw_607 mw_26 mw_608
theorem cw_L_49 : GoodIn TW (wsV RL 49 RX6 yX6_marks (.code yX6_marks cX6_marks 3 (some .int) :: TW)) := zGV mw_648 mw_649 mw_650 mw_26 mw_651
theorem cw_L_52 : GoodIn TW (wsV RL 52 RX6 yX6_mark (.code yX6_mark cX6_mark 6 (some .int) :: TW)) := zGV mw_662 mw_663 mw_664 mw_26 mw_665
theorem cw_L_56 : GoodIn TW (wsV RL 56 RX6 yX6_wordLength (.code yX6_wordLength cX6_wordLength 3 (some .int) :: TW)) := zGV mw_685 mw_686 mw_687 mw_26 mw_688
theorem cw_L_59 : GoodIn TW (wsV RL 59 RX6 yX6_sign (.code yX6_sign cX6_sign 4 (some .int) :: TW)) := zGV mw_699 mw_700 mw_701 mw_26 mw_702
theorem cw_L_63 : GoodIn TW (wsV RL 63 RX6 yX6_wordAt (.code yX6_wordAt cX6_wordAt 4 (some .int) :: TW)) := zGV mw_711 mw_712 mw_713 mw_26 mw_714
theorem cw_L_66 : GoodIn TW (wsV RL 66 RX6 yX6_erase (.code yX6_erase cX6_erase 5 (some .int) :: TW)) := zGV mw_718 mw_719 mw_720 mw_26 mw_721
theorem cw_L_69 : GoodIn TW (wsV RL 69 RX6 yX6_decide (.code yX6_decide cX6_decide 5 (some .int) :: TW)) := zGV mw_742 mw_743 mw_744 mw_26 mw_745
theorem cw_L_72 : GoodIn TW (wsV RL 72 RX6 yX6_setLetter (.code yX6_setLetter cX6_setLetter 5 (some .int) :: TW)) := zGV mw_762 mw_763 mw_764 mw_26 mw_765
theorem cw_L_75 : GoodIn TW (wsV RL 75 RX6 yX6_setMargin (.code yX6_setMargin cX6_setMargin 3 (some .int) :: TW)) := zGV mw_770 mw_771 mw_772 mw_26 mw_773
theorem cw_L_78 : GoodIn TW (wsV RL 78 RX6 yX6_setGap (.code yX6_setGap cX6_setGap 3 (some .int) :: TW)) := zGV mw_777 mw_778 mw_779 mw_26 mw_780
theorem cw_L_81 : GoodIn TW (wsV RL 81 RX6 yX6_undo (.code yX6_undo cX6_undo 1 (some .int) :: TW)) := zGV mw_784 mw_785 mw_786 mw_26 mw_787
theorem cw_L_84 : GoodIn TW (wsV RL 84 RX6 yX6_count (.code yX6_count cX6_count 3 (some .int) :: TW)) := zGV mw_805 mw_806 mw_807 mw_26 mw_808
theorem cw_L_87 : GoodIn TW (wsV RL 87 RX6 yX6_bestPen (.code yX6_bestPen cX6_bestPen 7 (some .int) :: TW)) := zGV mw_816 mw_817 mw_818 mw_26 mw_819
theorem cw_L_90 : GoodIn TW (wsV RL 90 RX6 yX6_bestDecision (.code yX6_bestDecision cX6_bestDecision 8 (some .int) :: TW)) := zGV mw_827 mw_828 mw_829 mw_26 mw_830
theorem cw_L_93 : GoodIn TW (wsV RL 93 RX6 yX6_wordsWith (.code yX6_wordsWith cX6_wordsWith 3 (some .int) :: TW)) := zGV mw_840 mw_841 mw_842 mw_26 mw_843
theorem cw_L_96 : GoodIn TW (wsV RL 96 RX6 yX6_save (.code yX6_save cX6_save 2 (some .int) :: TW)) := zGV mw_847 mw_848 mw_849 mw_26 mw_850
theorem cw_L_99 : GoodIn TW (wsV RL 99 RX6 yX6_restore (.code yX6_restore cX6_restore 2 (some .int) :: TW)) := zGV mw_859 mw_860 mw_861 mw_26 mw_862
theorem dL_tryWrite_0 : decode cL_tryWrite 0 = .ok (.aload_n 0, 1) := by decide +kernel
theorem dL_tryWrite_1 : decode cL_tryWrite 1 = .ok (.iload_n 1, 1) := by decide +kernel
theorem dL_tryWrite_2 : decode cL_tryWrite 2 = .ok (.iload_n 2, 1) := by decide +kernel
theorem dL_tryWrite_3 : decode cL_tryWrite 3 = .ok (.iload_n 3, 1) := by decide +kernel
theorem dL_tryWrite_4 : decode cL_tryWrite 4 = .ok (.iload 4, 2) := by decide +kernel
theorem dL_tryWrite_6 : decode cL_tryWrite 6 = .ok (.iload 5, 2) := by decide +kernel
theorem dL_tryWrite_8 : decode cL_tryWrite 8 = .ok (.invokevirtual 7, 3) := by decide +kernel
theorem dL_tryWrite_11 : decode cL_tryWrite 11 = .ok (.ireturn, 1) := by decide +kernel
theorem dL_tryWrite_12 : decode cL_tryWrite 12 = .ok (.astore 6, 2) := by decide +kernel
theorem dL_tryWrite_14 : decode cL_tryWrite 14 = .ok (.ldc 15, 2) := by decide +kernel
theorem dL_tryWrite_16 : decode cL_tryWrite 16 = .ok (.ireturn, 1) := by decide +kernel
theorem dL_tryWrite_17 : decode cL_tryWrite 17 = .ok (.astore 6, 2) := by decide +kernel
theorem dL_tryWrite_19 : decode cL_tryWrite 19 = .ok (.ldc 18, 2) := by decide +kernel
theorem dL_tryWrite_21 : decode cL_tryWrite 21 = .ok (.ireturn, 1) := by decide +kernel
theorem dL_tryWrite_22 : decode cL_tryWrite 22 = .ok (.astore 6, 2) := by decide +kernel
theorem dL_tryWrite_24 : decode cL_tryWrite 24 = .ok (.ldc 21, 2) := by decide +kernel
theorem dL_tryWrite_26 : decode cL_tryWrite 26 = .ok (.ireturn, 1) := by decide +kernel
def FL_tryWrite (T : zT) (p0 : Nat) (p1 : Int32) (p2 : Int32) (p3 : Int32) (p4 : Int32) (p5 : Int32) (h : zH) : Option (Int32 × zH) := zbh (FX6_write T p0 p1 p2 p3 p4 p5 h) (fun x2 h3 => some (x2, h3)) (fun E4 h5 => if E4 = "java/lang/IndexOutOfBoundsException" then (some ((-9999001 : Int32), h5)) else (if E4 = "java/lang/IllegalArgumentException" then (some ((-9999002 : Int32), h5)) else (if E4 = "java/lang/IllegalStateException" then (some ((-9999003 : Int32), h5)) else (none))))
set_option maxHeartbeats 4000000 in
set_option maxRecDepth 100000 in
theorem BL_tryWrite {X : zX} (CW : zCW X cL_tryWrite 7 RL "tryWrite" (some .int) 8 138 [(0, 11, 12, 13), (0, 11, 17, 16), (0, 11, 22, 19)]) {hi : Nat} {h : zH} {p0 : Nat} {p1 : Int32} {p2 : Int32} {p3 : Int32} {p4 : Int32} {p5 : Int32} {r9 : (Int32 × zH)} (hf : FL_tryWrite (xT X) p0 p1 p2 p3 p4 p5 h = some r9) : zW X 7 (zZ X false (some (.int r9.1), hi, r9.2)) 5 30 false hi h 0 [(0, .ref p0), (1, .int p1), (2, .int p2), (3, .int p3), (4, .int p4), (5, .int p5)] [] := by
  have C := CW.1
  unfold FL_tryWrite at hf
  refine z_aload_n C dL_tryWrite_0 0 rfl rfl ?_
  refine z_iload_n C dL_tryWrite_1 1 rfl rfl ?_
  refine z_iload_n C dL_tryWrite_2 2 rfl rfl ?_
  refine z_iload_n C dL_tryWrite_3 3 rfl rfl ?_
  refine z_iload C dL_tryWrite_4 4 rfl ?_
  refine z_iload C dL_tryWrite_6 5 rfl ?_
  refine z_callVH (kc' := 0) (ks' := 0) CW hf (fun _ _ e => MX6_write (xl X) CW.2.2.2.2 (xD X) (xT X) (xlo X) hi e) (fun _ e => OX6_write e) rfl cw_L_7 yv_X6_write dL_tryWrite_8 rfl (by decide) ⟨rfl, rfl⟩ (Nat.le_of_ble_eq_true rfl) (st := []) rfl ?_ ?_
  · intro x2 h3 hf
    exact z_ireturn C dL_tryWrite_11 (by cases hf; rfl)
  · intro E4 h5 hf
    refine z_ite hf (fun c hf => ?_) (fun c hf => ?_)
    · subst c
      refine ⟨[], ⟨0, 11, 12, 13⟩, [⟨0, 11, 17, 16⟩, ⟨0, 11, 22, 19⟩], "java/lang/IndexOutOfBoundsException", rfl, (fun _ hz => nomatch hz), by decide, by decide, mw_604, by decide, fun q9 => ?_⟩
      refine z_astore C dL_tryWrite_12 (by decide) (lv' := [(6, .ref q9), (0, .ref p0), (1, .int p1), (2, .int p2), (3, .int p3), (4, .int p4), (5, .int p5)]) rfl ?_
      refine z_ldc C (v := (-9999001 : Int32)) mw_644 dL_tryWrite_14 ?_
      exact z_ireturn C dL_tryWrite_16 (by cases hf; rfl)
    · refine z_ite hf (fun c hf => ?_) (fun c hf => ?_)
      · subst c
        refine ⟨[⟨0, 11, 12, 13⟩], ⟨0, 11, 17, 16⟩, [⟨0, 11, 22, 19⟩], "java/lang/IllegalArgumentException", rfl, (by intro z hz; rcases List.mem_cons.mp hz with rfl | hz; exact Or.inr ⟨by decide, "java/lang/IndexOutOfBoundsException", mw_604, by decide⟩; exact absurd hz List.not_mem_nil), by decide, by decide, mw_288, by decide, fun q9 => ?_⟩
        refine z_astore C dL_tryWrite_17 (by decide) (lv' := [(6, .ref q9), (0, .ref p0), (1, .int p1), (2, .int p2), (3, .int p3), (4, .int p4), (5, .int p5)]) rfl ?_
        refine z_ldc C (v := (-9999002 : Int32)) mw_467 dL_tryWrite_19 ?_
        exact z_ireturn C dL_tryWrite_21 (by cases hf; rfl)
      · refine z_ite hf (fun c hf => ?_) (fun c hf => ?_)
        · subst c
          refine ⟨[⟨0, 11, 12, 13⟩, ⟨0, 11, 17, 16⟩], ⟨0, 11, 22, 19⟩, [], "java/lang/IllegalStateException", rfl, (by intro z hz; rcases List.mem_cons.mp hz with rfl | hz; exact Or.inr ⟨by decide, "java/lang/IndexOutOfBoundsException", mw_604, by decide⟩; rcases List.mem_cons.mp hz with rfl | hz; exact Or.inr ⟨by decide, "java/lang/IllegalArgumentException", mw_288, by decide⟩; exact absurd hz List.not_mem_nil), by decide, by decide, mw_486, by decide, fun q9 => ?_⟩
          refine z_astore C dL_tryWrite_22 (by decide) (lv' := [(6, .ref q9), (0, .ref p0), (1, .int p1), (2, .int p2), (3, .int p3), (4, .int p4), (5, .int p5)]) rfl ?_
          refine z_ldc C (v := (-9999003 : Int32)) mw_508 dL_tryWrite_24 ?_
          exact z_ireturn C dL_tryWrite_26 (by cases hf; rfl)
        · exact nomatch hf
theorem ML_tryWrite (l : Launch) (hl9 : l.stackTraces = false) (D : va_G) (T : zT) (lo : Nat) (hi : Nat) {h : zH} {p0 : Nat} {p1 : Int32} {p2 : Int32} {p3 : Int32} {p4 : Int32} {p5 : Int32} {v9 : Int32} {h9 : zH} (hf : FL_tryWrite T p0 p1 p2 p3 p4 p5 h = some (v9, h9)) : zMW l yL_tryWrite (.codeWith yL_tryWrite cL_tryWrite 7 (some .int) [(0, 11, 12, 13), (0, 11, 17, 16), (0, 11, 22, 19)] :: TW) ({ frames := 8, cells := 5, slots := 30, locals := 138 } : Room) D T lo [.ref p0, .int p1, .int p2, .int p3, .int p4, .int p5] hi h (some (.int v9), hi, h9) :=
  z_enterW hl9 (own := RL) (nm := "tryWrite") (lv := [(0, .ref p0), (1, .int p1), (2, .int p2), (3, .int p3), (4, .int p4), (5, .int p5)]) (by decide +kernel) rfl rfl (Nat.le_of_ble_eq_true rfl) rfl (fun _ _ _ _ _ _ _ _ C => BL_tryWrite C hf)
theorem dL_tryFind_0 : decode cL_tryFind 0 = .ok (.aload_n 0, 1) := by decide +kernel
theorem dL_tryFind_1 : decode cL_tryFind 1 = .ok (.iload_n 1, 1) := by decide +kernel
theorem dL_tryFind_2 : decode cL_tryFind 2 = .ok (.iload_n 2, 1) := by decide +kernel
theorem dL_tryFind_3 : decode cL_tryFind 3 = .ok (.lload_n 3, 1) := by decide +kernel
theorem dL_tryFind_4 : decode cL_tryFind 4 = .ok (.invokevirtual 22, 3) := by decide +kernel
theorem dL_tryFind_7 : decode cL_tryFind 7 = .ok (.ireturn, 1) := by decide +kernel
theorem dL_tryFind_8 : decode cL_tryFind 8 = .ok (.astore 5, 2) := by decide +kernel
theorem dL_tryFind_10 : decode cL_tryFind 10 = .ok (.ldc 15, 2) := by decide +kernel
theorem dL_tryFind_12 : decode cL_tryFind 12 = .ok (.ireturn, 1) := by decide +kernel
theorem dL_tryFind_13 : decode cL_tryFind 13 = .ok (.astore 5, 2) := by decide +kernel
theorem dL_tryFind_15 : decode cL_tryFind 15 = .ok (.ldc 18, 2) := by decide +kernel
theorem dL_tryFind_17 : decode cL_tryFind 17 = .ok (.ireturn, 1) := by decide +kernel
def FL_tryFind (T : zT) (p0 : Nat) (p1 : Int32) (p2 : Int32) (p3 : Int64) (h : zH) : Option (Int32 × zH) := zbh (FX6_find T p0 p1 p2 p3 h) (fun x2 h3 => some (x2, h3)) (fun E4 h5 => if E4 = "java/lang/IndexOutOfBoundsException" then (some ((-9999001 : Int32), h5)) else (if E4 = "java/lang/IllegalArgumentException" then (some ((-9999002 : Int32), h5)) else (none)))
set_option maxHeartbeats 4000000 in
set_option maxRecDepth 100000 in
theorem BL_tryFind {X : zX} (CW : zCW X cL_tryFind 6 RL "tryFind" (some .int) 8 173 [(0, 7, 8, 13), (0, 7, 13, 16)]) {hi : Nat} {h : zH} {p0 : Nat} {p1 : Int32} {p2 : Int32} {p3 : Int64} {r9 : (Int32 × zH)} (hf : FL_tryFind (xT X) p0 p1 p2 p3 h = some r9) : zW X 6 (zZ X false (some (.int r9.1), hi, r9.2)) 3 18 false hi h 0 [(0, .ref p0), (1, .int p1), (2, .int p2), (3, .long p3)] [] := by
  have C := CW.1
  unfold FL_tryFind at hf
  refine z_aload_n C dL_tryFind_0 0 rfl rfl ?_
  refine z_iload_n C dL_tryFind_1 1 rfl rfl ?_
  refine z_iload_n C dL_tryFind_2 2 rfl rfl ?_
  refine z_lload_n C dL_tryFind_3 3 rfl rfl ?_
  refine z_callVH (kc' := 0) (ks' := 0) CW hf (fun _ _ e => MX6_find (xl X) CW.2.2.2.2 (xD X) (xT X) (xlo X) hi e) (fun _ e => OX6_find e) rfl cw_L_22 yv_X6_find dL_tryFind_4 rfl (by decide) ⟨rfl, rfl⟩ (Nat.le_of_ble_eq_true rfl) (st := []) rfl ?_ ?_
  · intro x2 h3 hf
    exact z_ireturn C dL_tryFind_7 (by cases hf; rfl)
  · intro E4 h5 hf
    refine z_ite hf (fun c hf => ?_) (fun c hf => ?_)
    · subst c
      refine ⟨[], ⟨0, 7, 8, 13⟩, [⟨0, 7, 13, 16⟩], "java/lang/IndexOutOfBoundsException", rfl, (fun _ hz => nomatch hz), by decide, by decide, mw_604, by decide, fun q9 => ?_⟩
      refine z_astore C dL_tryFind_8 (by decide) (lv' := [(5, .ref q9), (0, .ref p0), (1, .int p1), (2, .int p2), (3, .long p3)]) rfl ?_
      refine z_ldc C (v := (-9999001 : Int32)) mw_644 dL_tryFind_10 ?_
      exact z_ireturn C dL_tryFind_12 (by cases hf; rfl)
    · refine z_ite hf (fun c hf => ?_) (fun c hf => ?_)
      · subst c
        refine ⟨[⟨0, 7, 8, 13⟩], ⟨0, 7, 13, 16⟩, [], "java/lang/IllegalArgumentException", rfl, (by intro z hz; rcases List.mem_cons.mp hz with rfl | hz; exact Or.inr ⟨by decide, "java/lang/IndexOutOfBoundsException", mw_604, by decide⟩; exact absurd hz List.not_mem_nil), by decide, by decide, mw_288, by decide, fun q9 => ?_⟩
        refine z_astore C dL_tryFind_13 (by decide) (lv' := [(5, .ref q9), (0, .ref p0), (1, .int p1), (2, .int p2), (3, .long p3)]) rfl ?_
        refine z_ldc C (v := (-9999002 : Int32)) mw_467 dL_tryFind_15 ?_
        exact z_ireturn C dL_tryFind_17 (by cases hf; rfl)
      · exact nomatch hf
theorem ML_tryFind (l : Launch) (hl9 : l.stackTraces = false) (D : va_G) (T : zT) (lo : Nat) (hi : Nat) {h : zH} {p0 : Nat} {p1 : Int32} {p2 : Int32} {p3 : Int64} {v9 : Int32} {h9 : zH} (hf : FL_tryFind T p0 p1 p2 p3 h = some (v9, h9)) : zMW l yL_tryFind (.codeWith yL_tryFind cL_tryFind 6 (some .int) [(0, 7, 8, 13), (0, 7, 13, 16)] :: TW) ({ frames := 8, cells := 3, slots := 18, locals := 173 } : Room) D T lo [.ref p0, .int p1, .int p2, .long p3] hi h (some (.int v9), hi, h9) :=
  z_enterW hl9 (own := RL) (nm := "tryFind") (lv := [(0, .ref p0), (1, .int p1), (2, .int p2), (3, .long p3)]) (by decide +kernel) rfl rfl (Nat.le_of_ble_eq_true rfl) rfl (fun _ _ _ _ _ _ _ _ C => BL_tryFind C hf)
theorem dL_tryScript_0 : decode cL_tryScript 0 = .ok (.aload_n 0, 1) := by decide +kernel
theorem dL_tryScript_1 : decode cL_tryScript 1 = .ok (.iload_n 1, 1) := by decide +kernel
theorem dL_tryScript_2 : decode cL_tryScript 2 = .ok (.lload_n 2, 1) := by decide +kernel
theorem dL_tryScript_3 : decode cL_tryScript 3 = .ok (.invokevirtual 26, 3) := by decide +kernel
theorem dL_tryScript_6 : decode cL_tryScript 6 = .ok (.ireturn, 1) := by decide +kernel
theorem dL_tryScript_7 : decode cL_tryScript 7 = .ok (.astore 4, 2) := by decide +kernel
theorem dL_tryScript_9 : decode cL_tryScript 9 = .ok (.ldc 18, 2) := by decide +kernel
theorem dL_tryScript_11 : decode cL_tryScript 11 = .ok (.ireturn, 1) := by decide +kernel
def FL_tryScript (T : zT) (p0 : Nat) (p1 : Int32) (p2 : Int64) (h : zH) : Option (Int32 × zH) := zbh (FX6_runScript T p0 p1 p2 h) (fun x2 h3 => some (x2, h3)) (fun E4 h5 => if E4 = "java/lang/IllegalArgumentException" then (some ((-9999002 : Int32), h5)) else (none))
set_option maxHeartbeats 4000000 in
set_option maxRecDepth 100000 in
theorem BL_tryScript {X : zX} (CW : zCW X cL_tryScript 5 RL "tryScript" (some .int) 8 177 [(0, 6, 7, 16)]) {hi : Nat} {h : zH} {p0 : Nat} {p1 : Int32} {p2 : Int64} {r9 : (Int32 × zH)} (hf : FL_tryScript (xT X) p0 p1 p2 h = some r9) : zW X 5 (zZ X false (some (.int r9.1), hi, r9.2)) 2 12 false hi h 0 [(0, .ref p0), (1, .int p1), (2, .long p2)] [] := by
  have C := CW.1
  unfold FL_tryScript at hf
  refine z_aload_n C dL_tryScript_0 0 rfl rfl ?_
  refine z_iload_n C dL_tryScript_1 1 rfl rfl ?_
  refine z_lload_n C dL_tryScript_2 2 rfl rfl ?_
  refine z_callVH (kc' := 0) (ks' := 0) CW hf (fun _ _ e => MX6_runScript (xl X) CW.2.2.2.2 (xD X) (xT X) (xlo X) hi e) (fun _ e => OX6_runScript e) rfl cw_L_26 yv_X6_runScript dL_tryScript_3 rfl (by decide) ⟨rfl, rfl⟩ (Nat.le_of_ble_eq_true rfl) (st := []) rfl ?_ ?_
  · intro x2 h3 hf
    exact z_ireturn C dL_tryScript_6 (by cases hf; rfl)
  · intro E4 h5 hf
    refine z_ite hf (fun c hf => ?_) (fun c hf => ?_)
    · subst c
      refine ⟨[], ⟨0, 6, 7, 16⟩, [], "java/lang/IllegalArgumentException", rfl, (fun _ hz => nomatch hz), by decide, by decide, mw_288, by decide, fun q9 => ?_⟩
      refine z_astore C dL_tryScript_7 (by decide) (lv' := [(4, .ref q9), (0, .ref p0), (1, .int p1), (2, .long p2)]) rfl ?_
      refine z_ldc C (v := (-9999002 : Int32)) mw_467 dL_tryScript_9 ?_
      exact z_ireturn C dL_tryScript_11 (by cases hf; rfl)
    · exact nomatch hf
theorem ML_tryScript (l : Launch) (hl9 : l.stackTraces = false) (D : va_G) (T : zT) (lo : Nat) (hi : Nat) {h : zH} {p0 : Nat} {p1 : Int32} {p2 : Int64} {v9 : Int32} {h9 : zH} (hf : FL_tryScript T p0 p1 p2 h = some (v9, h9)) : zMW l yL_tryScript (.codeWith yL_tryScript cL_tryScript 5 (some .int) [(0, 6, 7, 16)] :: TW) ({ frames := 8, cells := 2, slots := 12, locals := 177 } : Room) D T lo [.ref p0, .int p1, .long p2] hi h (some (.int v9), hi, h9) :=
  z_enterW hl9 (own := RL) (nm := "tryScript") (lv := [(0, .ref p0), (1, .int p1), (2, .long p2)]) (by decide +kernel) rfl rfl (Nat.le_of_ble_eq_true rfl) rfl (fun _ _ _ _ _ _ _ _ C => BL_tryScript C hf)
theorem dL_trySimulate_0 : decode cL_trySimulate 0 = .ok (.aload_n 0, 1) := by decide +kernel
theorem dL_trySimulate_1 : decode cL_trySimulate 1 = .ok (.lload_n 1, 1) := by decide +kernel
theorem dL_trySimulate_2 : decode cL_trySimulate 2 = .ok (.iload_n 3, 1) := by decide +kernel
theorem dL_trySimulate_3 : decode cL_trySimulate 3 = .ok (.invokevirtual 30, 3) := by decide +kernel
theorem dL_trySimulate_6 : decode cL_trySimulate 6 = .ok (.ireturn, 1) := by decide +kernel
theorem dL_trySimulate_7 : decode cL_trySimulate 7 = .ok (.astore 4, 2) := by decide +kernel
theorem dL_trySimulate_9 : decode cL_trySimulate 9 = .ok (.ldc 18, 2) := by decide +kernel
theorem dL_trySimulate_11 : decode cL_trySimulate 11 = .ok (.ireturn, 1) := by decide +kernel
def FL_trySimulate (T : zT) (p0 : Nat) (p1 : Int64) (p2 : Int32) (h : zH) : Option (Int32 × zH) := zbh (FX6_simulate T p0 p1 p2 h) (fun x2 h3 => some (x2, h3)) (fun E4 h5 => if E4 = "java/lang/IllegalArgumentException" then (some ((-9999002 : Int32), h5)) else (none))
set_option maxHeartbeats 4000000 in
set_option maxRecDepth 100000 in
theorem BL_trySimulate {X : zX} (CW : zCW X cL_trySimulate 5 RL "trySimulate" (some .int) 8 153 [(0, 6, 7, 16)]) {hi : Nat} {h : zH} {p0 : Nat} {p1 : Int64} {p2 : Int32} {r9 : (Int32 × zH)} (hf : FL_trySimulate (xT X) p0 p1 p2 h = some r9) : zW X 5 (zZ X false (some (.int r9.1), hi, r9.2)) 1 6 false hi h 0 [(0, .ref p0), (1, .long p1), (3, .int p2)] [] := by
  have C := CW.1
  unfold FL_trySimulate at hf
  refine z_aload_n C dL_trySimulate_0 0 rfl rfl ?_
  refine z_lload_n C dL_trySimulate_1 1 rfl rfl ?_
  refine z_iload_n C dL_trySimulate_2 2 rfl rfl ?_
  refine z_callVH (kc' := 0) (ks' := 0) CW hf (fun _ _ e => MX6_simulate (xl X) CW.2.2.2.2 (xD X) (xT X) (xlo X) hi e) (fun _ e => OX6_simulate e) rfl cw_L_30 yv_X6_simulate dL_trySimulate_3 rfl (by decide) ⟨rfl, rfl⟩ (Nat.le_of_ble_eq_true rfl) (st := []) rfl ?_ ?_
  · intro x2 h3 hf
    exact z_ireturn C dL_trySimulate_6 (by cases hf; rfl)
  · intro E4 h5 hf
    refine z_ite hf (fun c hf => ?_) (fun c hf => ?_)
    · subst c
      refine ⟨[], ⟨0, 6, 7, 16⟩, [], "java/lang/IllegalArgumentException", rfl, (fun _ hz => nomatch hz), by decide, by decide, mw_288, by decide, fun q9 => ?_⟩
      refine z_astore C dL_trySimulate_7 (by decide) (lv' := [(4, .ref q9), (0, .ref p0), (1, .long p1), (3, .int p2)]) rfl ?_
      refine z_ldc C (v := (-9999002 : Int32)) mw_467 dL_trySimulate_9 ?_
      exact z_ireturn C dL_trySimulate_11 (by cases hf; rfl)
    · exact nomatch hf
theorem ML_trySimulate (l : Launch) (hl9 : l.stackTraces = false) (D : va_G) (T : zT) (lo : Nat) (hi : Nat) {h : zH} {p0 : Nat} {p1 : Int64} {p2 : Int32} {v9 : Int32} {h9 : zH} (hf : FL_trySimulate T p0 p1 p2 h = some (v9, h9)) : zMW l yL_trySimulate (.codeWith yL_trySimulate cL_trySimulate 5 (some .int) [(0, 6, 7, 16)] :: TW) ({ frames := 8, cells := 1, slots := 6, locals := 153 } : Room) D T lo [.ref p0, .long p1, .int p2] hi h (some (.int v9), hi, h9) :=
  z_enterW hl9 (own := RL) (nm := "trySimulate") (lv := [(0, .ref p0), (1, .long p1), (3, .int p2)]) (by decide +kernel) rfl rfl (Nat.le_of_ble_eq_true rfl) rfl (fun _ _ _ _ _ _ _ _ C => BL_trySimulate C hf)
theorem dL_tryAppend_0 : decode cL_tryAppend 0 = .ok (.aload_n 0, 1) := by decide +kernel
theorem dL_tryAppend_1 : decode cL_tryAppend 1 = .ok (.iload_n 1, 1) := by decide +kernel
theorem dL_tryAppend_2 : decode cL_tryAppend 2 = .ok (.invokevirtual 34, 3) := by decide +kernel
theorem dL_tryAppend_5 : decode cL_tryAppend 5 = .ok (.ireturn, 1) := by decide +kernel
theorem dL_tryAppend_6 : decode cL_tryAppend 6 = .ok (.astore_n 2, 1) := by decide +kernel
theorem dL_tryAppend_7 : decode cL_tryAppend 7 = .ok (.ldc 18, 2) := by decide +kernel
theorem dL_tryAppend_9 : decode cL_tryAppend 9 = .ok (.ireturn, 1) := by decide +kernel
theorem dL_tryAppend_10 : decode cL_tryAppend 10 = .ok (.astore_n 2, 1) := by decide +kernel
theorem dL_tryAppend_11 : decode cL_tryAppend 11 = .ok (.ldc 21, 2) := by decide +kernel
theorem dL_tryAppend_13 : decode cL_tryAppend 13 = .ok (.ireturn, 1) := by decide +kernel
def FL_tryAppend (T : zT) (p0 : Nat) (p1 : Int32) (h : zH) : Option (Int32 × zH) := zbh (FX6_append T p0 p1 h) (fun x2 h3 => some (x2, h3)) (fun E4 h5 => if E4 = "java/lang/IllegalArgumentException" then (some ((-9999002 : Int32), h5)) else (if E4 = "java/lang/IllegalStateException" then (some ((-9999003 : Int32), h5)) else (none)))
set_option maxHeartbeats 4000000 in
set_option maxRecDepth 100000 in
theorem BL_tryAppend {X : zX} (CW : zCW X cL_tryAppend 3 RL "tryAppend" (some .int) 8 133 [(0, 5, 6, 16), (0, 5, 10, 19)]) {hi : Nat} {h : zH} {p0 : Nat} {p1 : Int32} {r9 : (Int32 × zH)} (hf : FL_tryAppend (xT X) p0 p1 h = some r9) : zW X 3 (zZ X false (some (.int r9.1), hi, r9.2)) 2 12 false hi h 0 [(0, .ref p0), (1, .int p1)] [] := by
  have C := CW.1
  unfold FL_tryAppend at hf
  refine z_aload_n C dL_tryAppend_0 0 rfl rfl ?_
  refine z_iload_n C dL_tryAppend_1 1 rfl rfl ?_
  refine z_callVH (kc' := 0) (ks' := 0) CW hf (fun _ _ e => MX6_append (xl X) CW.2.2.2.2 (xD X) (xT X) (xlo X) hi e) (fun _ e => OX6_append e) rfl cw_L_34 yv_X6_append dL_tryAppend_2 rfl (by decide) ⟨rfl, rfl⟩ (Nat.le_of_ble_eq_true rfl) (st := []) rfl ?_ ?_
  · intro x2 h3 hf
    exact z_ireturn C dL_tryAppend_5 (by cases hf; rfl)
  · intro E4 h5 hf
    refine z_ite hf (fun c hf => ?_) (fun c hf => ?_)
    · subst c
      refine ⟨[], ⟨0, 5, 6, 16⟩, [⟨0, 5, 10, 19⟩], "java/lang/IllegalArgumentException", rfl, (fun _ hz => nomatch hz), by decide, by decide, mw_288, by decide, fun q9 => ?_⟩
      refine z_astore_n C dL_tryAppend_6 rfl (by decide) (lv' := [(2, .ref q9), (0, .ref p0), (1, .int p1)]) rfl ?_
      refine z_ldc C (v := (-9999002 : Int32)) mw_467 dL_tryAppend_7 ?_
      exact z_ireturn C dL_tryAppend_9 (by cases hf; rfl)
    · refine z_ite hf (fun c hf => ?_) (fun c hf => ?_)
      · subst c
        refine ⟨[⟨0, 5, 6, 16⟩], ⟨0, 5, 10, 19⟩, [], "java/lang/IllegalStateException", rfl, (by intro z hz; rcases List.mem_cons.mp hz with rfl | hz; exact Or.inr ⟨by decide, "java/lang/IllegalArgumentException", mw_288, by decide⟩; exact absurd hz List.not_mem_nil), by decide, by decide, mw_486, by decide, fun q9 => ?_⟩
        refine z_astore_n C dL_tryAppend_10 rfl (by decide) (lv' := [(2, .ref q9), (0, .ref p0), (1, .int p1)]) rfl ?_
        refine z_ldc C (v := (-9999003 : Int32)) mw_508 dL_tryAppend_11 ?_
        exact z_ireturn C dL_tryAppend_13 (by cases hf; rfl)
      · exact nomatch hf
theorem ML_tryAppend (l : Launch) (hl9 : l.stackTraces = false) (D : va_G) (T : zT) (lo : Nat) (hi : Nat) {h : zH} {p0 : Nat} {p1 : Int32} {v9 : Int32} {h9 : zH} (hf : FL_tryAppend T p0 p1 h = some (v9, h9)) : zMW l yL_tryAppend (.codeWith yL_tryAppend cL_tryAppend 3 (some .int) [(0, 5, 6, 16), (0, 5, 10, 19)] :: TW) ({ frames := 8, cells := 2, slots := 12, locals := 133 } : Room) D T lo [.ref p0, .int p1] hi h (some (.int v9), hi, h9) :=
  z_enterW hl9 (own := RL) (nm := "tryAppend") (lv := [(0, .ref p0), (1, .int p1)]) (by decide +kernel) rfl rfl (Nat.le_of_ble_eq_true rfl) rfl (fun _ _ _ _ _ _ _ _ C => BL_tryAppend C hf)
theorem dL_tryLoad_0 : decode cL_tryLoad 0 = .ok (.aload_n 0, 1) := by decide +kernel
theorem dL_tryLoad_1 : decode cL_tryLoad 1 = .ok (.invokevirtual 38, 3) := by decide +kernel
theorem dL_tryLoad_4 : decode cL_tryLoad 4 = .ok (.ireturn, 1) := by decide +kernel
theorem dL_tryLoad_5 : decode cL_tryLoad 5 = .ok (.astore_n 1, 1) := by decide +kernel
theorem dL_tryLoad_6 : decode cL_tryLoad 6 = .ok (.ldc 21, 2) := by decide +kernel
theorem dL_tryLoad_8 : decode cL_tryLoad 8 = .ok (.ireturn, 1) := by decide +kernel
def FL_tryLoad (T : zT) (p0 : Nat) (h : zH) : Option (Int32 × zH) := zbh (FX6_load T p0 h) (fun x2 h3 => some (x2, h3)) (fun E4 h5 => if E4 = "java/lang/IllegalStateException" then (some ((-9999003 : Int32), h5)) else (none))
set_option maxHeartbeats 4000000 in
set_option maxRecDepth 100000 in
theorem BL_tryLoad {X : zX} (CW : zCW X cL_tryLoad 2 RL "tryLoad" (some .int) 7 160 [(0, 4, 5, 19)]) {hi : Nat} {h : zH} {p0 : Nat} {r9 : (Int32 × zH)} (hf : FL_tryLoad (xT X) p0 h = some r9) : zW X 2 (zZ X false (some (.int r9.1), hi, r9.2)) 1 6 false hi h 0 [(0, .ref p0)] [] := by
  have C := CW.1
  unfold FL_tryLoad at hf
  refine z_aload_n C dL_tryLoad_0 0 rfl rfl ?_
  refine z_callVH (kc' := 0) (ks' := 0) CW hf (fun _ _ e => MX6_load (xl X) CW.2.2.2.2 (xD X) (xT X) (xlo X) hi e) (fun _ e => OX6_load e) rfl cw_L_38 yv_X6_load dL_tryLoad_1 rfl (by decide) ⟨rfl, rfl⟩ (Nat.le_of_ble_eq_true rfl) (st := []) rfl ?_ ?_
  · intro x2 h3 hf
    exact z_ireturn C dL_tryLoad_4 (by cases hf; rfl)
  · intro E4 h5 hf
    refine z_ite hf (fun c hf => ?_) (fun c hf => ?_)
    · subst c
      refine ⟨[], ⟨0, 4, 5, 19⟩, [], "java/lang/IllegalStateException", rfl, (fun _ hz => nomatch hz), by decide, by decide, mw_486, by decide, fun q9 => ?_⟩
      refine z_astore_n C dL_tryLoad_5 rfl (by decide) (lv' := [(1, .ref q9), (0, .ref p0)]) rfl ?_
      refine z_ldc C (v := (-9999003 : Int32)) mw_508 dL_tryLoad_6 ?_
      exact z_ireturn C dL_tryLoad_8 (by cases hf; rfl)
    · exact nomatch hf
theorem ML_tryLoad (l : Launch) (hl9 : l.stackTraces = false) (D : va_G) (T : zT) (lo : Nat) (hi : Nat) {h : zH} {p0 : Nat} {v9 : Int32} {h9 : zH} (hf : FL_tryLoad T p0 h = some (v9, h9)) : zMW l yL_tryLoad (.codeWith yL_tryLoad cL_tryLoad 2 (some .int) [(0, 4, 5, 19)] :: TW) ({ frames := 7, cells := 1, slots := 6, locals := 160 } : Room) D T lo [.ref p0] hi h (some (.int v9), hi, h9) :=
  z_enterW hl9 (own := RL) (nm := "tryLoad") (lv := [(0, .ref p0)]) (by decide +kernel) rfl rfl (Nat.le_of_ble_eq_true rfl) rfl (fun _ _ _ _ _ _ _ _ C => BL_tryLoad C hf)
theorem dL_tryAbout_0 : decode cL_tryAbout 0 = .ok (.aload_n 0, 1) := by decide +kernel
theorem dL_tryAbout_1 : decode cL_tryAbout 1 = .ok (.iload_n 1, 1) := by decide +kernel
theorem dL_tryAbout_2 : decode cL_tryAbout 2 = .ok (.invokevirtual 42, 3) := by decide +kernel
theorem dL_tryAbout_5 : decode cL_tryAbout 5 = .ok (.ireturn, 1) := by decide +kernel
theorem dL_tryAbout_6 : decode cL_tryAbout 6 = .ok (.astore_n 2, 1) := by decide +kernel
theorem dL_tryAbout_7 : decode cL_tryAbout 7 = .ok (.ldc 18, 2) := by decide +kernel
theorem dL_tryAbout_9 : decode cL_tryAbout 9 = .ok (.ireturn, 1) := by decide +kernel
def FL_tryAbout (T : zT) (p0 : Nat) (p1 : Int32) (h : zH) : Option (Int32 × zH) := zbh (FX6_about T p0 p1 h) (fun x2 h3 => some (x2, h3)) (fun E4 h5 => if E4 = "java/lang/IllegalArgumentException" then (some ((-9999002 : Int32), h5)) else (none))
set_option maxHeartbeats 4000000 in
set_option maxRecDepth 100000 in
theorem BL_tryAbout {X : zX} (CW : zCW X cL_tryAbout 3 RL "tryAbout" (some .int) 8 169 [(0, 5, 6, 16)]) {hi : Nat} {h : zH} {p0 : Nat} {p1 : Int32} {r9 : (Int32 × zH)} (hf : FL_tryAbout (xT X) p0 p1 h = some r9) : zW X 3 (zZ X false (some (.int r9.1), hi, r9.2)) 1 6 false hi h 0 [(0, .ref p0), (1, .int p1)] [] := by
  have C := CW.1
  unfold FL_tryAbout at hf
  refine z_aload_n C dL_tryAbout_0 0 rfl rfl ?_
  refine z_iload_n C dL_tryAbout_1 1 rfl rfl ?_
  refine z_callVH (kc' := 0) (ks' := 0) CW hf (fun _ _ e => MX6_about (xl X) CW.2.2.2.2 (xD X) (xT X) (xlo X) hi e) (fun _ e => OX6_about e) rfl cw_L_42 yv_X6_about dL_tryAbout_2 rfl (by decide) ⟨rfl, rfl⟩ (Nat.le_of_ble_eq_true rfl) (st := []) rfl ?_ ?_
  · intro x2 h3 hf
    exact z_ireturn C dL_tryAbout_5 (by cases hf; rfl)
  · intro E4 h5 hf
    refine z_ite hf (fun c hf => ?_) (fun c hf => ?_)
    · subst c
      refine ⟨[], ⟨0, 5, 6, 16⟩, [], "java/lang/IllegalArgumentException", rfl, (fun _ hz => nomatch hz), by decide, by decide, mw_288, by decide, fun q9 => ?_⟩
      refine z_astore_n C dL_tryAbout_6 rfl (by decide) (lv' := [(2, .ref q9), (0, .ref p0), (1, .int p1)]) rfl ?_
      refine z_ldc C (v := (-9999002 : Int32)) mw_467 dL_tryAbout_7 ?_
      exact z_ireturn C dL_tryAbout_9 (by cases hf; rfl)
    · exact nomatch hf
theorem ML_tryAbout (l : Launch) (hl9 : l.stackTraces = false) (D : va_G) (T : zT) (lo : Nat) (hi : Nat) {h : zH} {p0 : Nat} {p1 : Int32} {v9 : Int32} {h9 : zH} (hf : FL_tryAbout T p0 p1 h = some (v9, h9)) : zMW l yL_tryAbout (.codeWith yL_tryAbout cL_tryAbout 3 (some .int) [(0, 5, 6, 16)] :: TW) ({ frames := 8, cells := 1, slots := 6, locals := 169 } : Room) D T lo [.ref p0, .int p1] hi h (some (.int v9), hi, h9) :=
  z_enterW hl9 (own := RL) (nm := "tryAbout") (lv := [(0, .ref p0), (1, .int p1)]) (by decide +kernel) rfl rfl (Nat.le_of_ble_eq_true rfl) rfl (fun _ _ _ _ _ _ _ _ C => BL_tryAbout C hf)
theorem dL_tryLetter_0 : decode cL_tryLetter 0 = .ok (.aload_n 0, 1) := by decide +kernel
theorem dL_tryLetter_1 : decode cL_tryLetter 1 = .ok (.iload_n 1, 1) := by decide +kernel
theorem dL_tryLetter_2 : decode cL_tryLetter 2 = .ok (.iload_n 2, 1) := by decide +kernel
theorem dL_tryLetter_3 : decode cL_tryLetter 3 = .ok (.invokevirtual 45, 3) := by decide +kernel
theorem dL_tryLetter_6 : decode cL_tryLetter 6 = .ok (.ireturn, 1) := by decide +kernel
theorem dL_tryLetter_7 : decode cL_tryLetter 7 = .ok (.astore_n 3, 1) := by decide +kernel
theorem dL_tryLetter_8 : decode cL_tryLetter 8 = .ok (.ldc 15, 2) := by decide +kernel
theorem dL_tryLetter_10 : decode cL_tryLetter 10 = .ok (.ireturn, 1) := by decide +kernel
theorem dL_tryLetter_11 : decode cL_tryLetter 11 = .ok (.astore_n 3, 1) := by decide +kernel
theorem dL_tryLetter_12 : decode cL_tryLetter 12 = .ok (.ldc 18, 2) := by decide +kernel
theorem dL_tryLetter_14 : decode cL_tryLetter 14 = .ok (.ireturn, 1) := by decide +kernel
def FL_tryLetter (T : zT) (p0 : Nat) (p1 : Int32) (p2 : Int32) (h : zH) : Option (Int32 × zH) := zbh (FX6_letter T p0 p1 p2 h) (fun x2 h3 => some (x2, h3)) (fun E4 h5 => if E4 = "java/lang/IndexOutOfBoundsException" then (some ((-9999001 : Int32), h5)) else (if E4 = "java/lang/IllegalArgumentException" then (some ((-9999002 : Int32), h5)) else (none)))
set_option maxHeartbeats 4000000 in
set_option maxRecDepth 100000 in
theorem BL_tryLetter {X : zX} (CW : zCW X cL_tryLetter 4 RL "tryLetter" (some .int) 8 170 [(0, 6, 7, 13), (0, 6, 11, 16)]) {hi : Nat} {h : zH} {p0 : Nat} {p1 : Int32} {p2 : Int32} {r9 : (Int32 × zH)} (hf : FL_tryLetter (xT X) p0 p1 p2 h = some r9) : zW X 4 (zZ X false (some (.int r9.1), hi, r9.2)) 2 12 false hi h 0 [(0, .ref p0), (1, .int p1), (2, .int p2)] [] := by
  have C := CW.1
  unfold FL_tryLetter at hf
  refine z_aload_n C dL_tryLetter_0 0 rfl rfl ?_
  refine z_iload_n C dL_tryLetter_1 1 rfl rfl ?_
  refine z_iload_n C dL_tryLetter_2 2 rfl rfl ?_
  refine z_callVH (kc' := 0) (ks' := 0) CW hf (fun _ _ e => MX6_letter (xl X) CW.2.2.2.2 (xD X) (xT X) (xlo X) hi e) (fun _ e => OX6_letter e) rfl cw_L_45 yv_X6_letter dL_tryLetter_3 rfl (by decide) ⟨rfl, rfl⟩ (Nat.le_of_ble_eq_true rfl) (st := []) rfl ?_ ?_
  · intro x2 h3 hf
    exact z_ireturn C dL_tryLetter_6 (by cases hf; rfl)
  · intro E4 h5 hf
    refine z_ite hf (fun c hf => ?_) (fun c hf => ?_)
    · subst c
      refine ⟨[], ⟨0, 6, 7, 13⟩, [⟨0, 6, 11, 16⟩], "java/lang/IndexOutOfBoundsException", rfl, (fun _ hz => nomatch hz), by decide, by decide, mw_604, by decide, fun q9 => ?_⟩
      refine z_astore_n C dL_tryLetter_7 rfl (by decide) (lv' := [(3, .ref q9), (0, .ref p0), (1, .int p1), (2, .int p2)]) rfl ?_
      refine z_ldc C (v := (-9999001 : Int32)) mw_644 dL_tryLetter_8 ?_
      exact z_ireturn C dL_tryLetter_10 (by cases hf; rfl)
    · refine z_ite hf (fun c hf => ?_) (fun c hf => ?_)
      · subst c
        refine ⟨[⟨0, 6, 7, 13⟩], ⟨0, 6, 11, 16⟩, [], "java/lang/IllegalArgumentException", rfl, (by intro z hz; rcases List.mem_cons.mp hz with rfl | hz; exact Or.inr ⟨by decide, "java/lang/IndexOutOfBoundsException", mw_604, by decide⟩; exact absurd hz List.not_mem_nil), by decide, by decide, mw_288, by decide, fun q9 => ?_⟩
        refine z_astore_n C dL_tryLetter_11 rfl (by decide) (lv' := [(3, .ref q9), (0, .ref p0), (1, .int p1), (2, .int p2)]) rfl ?_
        refine z_ldc C (v := (-9999002 : Int32)) mw_467 dL_tryLetter_12 ?_
        exact z_ireturn C dL_tryLetter_14 (by cases hf; rfl)
      · exact nomatch hf
theorem ML_tryLetter (l : Launch) (hl9 : l.stackTraces = false) (D : va_G) (T : zT) (lo : Nat) (hi : Nat) {h : zH} {p0 : Nat} {p1 : Int32} {p2 : Int32} {v9 : Int32} {h9 : zH} (hf : FL_tryLetter T p0 p1 p2 h = some (v9, h9)) : zMW l yL_tryLetter (.codeWith yL_tryLetter cL_tryLetter 4 (some .int) [(0, 6, 7, 13), (0, 6, 11, 16)] :: TW) ({ frames := 8, cells := 2, slots := 12, locals := 170 } : Room) D T lo [.ref p0, .int p1, .int p2] hi h (some (.int v9), hi, h9) :=
  z_enterW hl9 (own := RL) (nm := "tryLetter") (lv := [(0, .ref p0), (1, .int p1), (2, .int p2)]) (by decide +kernel) rfl rfl (Nat.le_of_ble_eq_true rfl) rfl (fun _ _ _ _ _ _ _ _ C => BL_tryLetter C hf)
theorem dL_tryMarks_0 : decode cL_tryMarks 0 = .ok (.aload_n 0, 1) := by decide +kernel
theorem dL_tryMarks_1 : decode cL_tryMarks 1 = .ok (.iload_n 1, 1) := by decide +kernel
theorem dL_tryMarks_2 : decode cL_tryMarks 2 = .ok (.iload_n 2, 1) := by decide +kernel
theorem dL_tryMarks_3 : decode cL_tryMarks 3 = .ok (.invokevirtual 49, 3) := by decide +kernel
theorem dL_tryMarks_6 : decode cL_tryMarks 6 = .ok (.ireturn, 1) := by decide +kernel
theorem dL_tryMarks_7 : decode cL_tryMarks 7 = .ok (.astore_n 3, 1) := by decide +kernel
theorem dL_tryMarks_8 : decode cL_tryMarks 8 = .ok (.ldc 15, 2) := by decide +kernel
theorem dL_tryMarks_10 : decode cL_tryMarks 10 = .ok (.ireturn, 1) := by decide +kernel
def FL_tryMarks (T : zT) (p0 : Nat) (p1 : Int32) (p2 : Int32) (h : zH) : Option (Int32 × zH) := zbh (FX6_marks T p0 p1 p2 h) (fun x2 h3 => some (x2, h3)) (fun E4 h5 => if E4 = "java/lang/IndexOutOfBoundsException" then (some ((-9999001 : Int32), h5)) else (none))
set_option maxHeartbeats 4000000 in
set_option maxRecDepth 100000 in
theorem BL_tryMarks {X : zX} (CW : zCW X cL_tryMarks 4 RL "tryMarks" (some .int) 8 134 [(0, 6, 7, 13)]) {hi : Nat} {h : zH} {p0 : Nat} {p1 : Int32} {p2 : Int32} {r9 : (Int32 × zH)} (hf : FL_tryMarks (xT X) p0 p1 p2 h = some r9) : zW X 4 (zZ X false (some (.int r9.1), hi, r9.2)) 1 6 false hi h 0 [(0, .ref p0), (1, .int p1), (2, .int p2)] [] := by
  have C := CW.1
  unfold FL_tryMarks at hf
  refine z_aload_n C dL_tryMarks_0 0 rfl rfl ?_
  refine z_iload_n C dL_tryMarks_1 1 rfl rfl ?_
  refine z_iload_n C dL_tryMarks_2 2 rfl rfl ?_
  refine z_callVH (kc' := 0) (ks' := 0) CW hf (fun _ _ e => MX6_marks (xl X) CW.2.2.2.2 (xD X) (xT X) (xlo X) hi e) (fun _ e => OX6_marks e) rfl cw_L_49 yv_X6_marks dL_tryMarks_3 rfl (by decide) ⟨rfl, rfl⟩ (Nat.le_of_ble_eq_true rfl) (st := []) rfl ?_ ?_
  · intro x2 h3 hf
    exact z_ireturn C dL_tryMarks_6 (by cases hf; rfl)
  · intro E4 h5 hf
    refine z_ite hf (fun c hf => ?_) (fun c hf => ?_)
    · subst c
      refine ⟨[], ⟨0, 6, 7, 13⟩, [], "java/lang/IndexOutOfBoundsException", rfl, (fun _ hz => nomatch hz), by decide, by decide, mw_604, by decide, fun q9 => ?_⟩
      refine z_astore_n C dL_tryMarks_7 rfl (by decide) (lv' := [(3, .ref q9), (0, .ref p0), (1, .int p1), (2, .int p2)]) rfl ?_
      refine z_ldc C (v := (-9999001 : Int32)) mw_644 dL_tryMarks_8 ?_
      exact z_ireturn C dL_tryMarks_10 (by cases hf; rfl)
    · exact nomatch hf
theorem ML_tryMarks (l : Launch) (hl9 : l.stackTraces = false) (D : va_G) (T : zT) (lo : Nat) (hi : Nat) {h : zH} {p0 : Nat} {p1 : Int32} {p2 : Int32} {v9 : Int32} {h9 : zH} (hf : FL_tryMarks T p0 p1 p2 h = some (v9, h9)) : zMW l yL_tryMarks (.codeWith yL_tryMarks cL_tryMarks 4 (some .int) [(0, 6, 7, 13)] :: TW) ({ frames := 8, cells := 1, slots := 6, locals := 134 } : Room) D T lo [.ref p0, .int p1, .int p2] hi h (some (.int v9), hi, h9) :=
  z_enterW hl9 (own := RL) (nm := "tryMarks") (lv := [(0, .ref p0), (1, .int p1), (2, .int p2)]) (by decide +kernel) rfl rfl (Nat.le_of_ble_eq_true rfl) rfl (fun _ _ _ _ _ _ _ _ C => BL_tryMarks C hf)
theorem dL_tryMark_0 : decode cL_tryMark 0 = .ok (.aload_n 0, 1) := by decide +kernel
theorem dL_tryMark_1 : decode cL_tryMark 1 = .ok (.iload_n 1, 1) := by decide +kernel
theorem dL_tryMark_2 : decode cL_tryMark 2 = .ok (.iload_n 2, 1) := by decide +kernel
theorem dL_tryMark_3 : decode cL_tryMark 3 = .ok (.iload_n 3, 1) := by decide +kernel
theorem dL_tryMark_4 : decode cL_tryMark 4 = .ok (.iload 4, 2) := by decide +kernel
theorem dL_tryMark_6 : decode cL_tryMark 6 = .ok (.invokevirtual 52, 3) := by decide +kernel
theorem dL_tryMark_9 : decode cL_tryMark 9 = .ok (.ireturn, 1) := by decide +kernel
theorem dL_tryMark_10 : decode cL_tryMark 10 = .ok (.astore 5, 2) := by decide +kernel
theorem dL_tryMark_12 : decode cL_tryMark 12 = .ok (.ldc 15, 2) := by decide +kernel
theorem dL_tryMark_14 : decode cL_tryMark 14 = .ok (.ireturn, 1) := by decide +kernel
theorem dL_tryMark_15 : decode cL_tryMark 15 = .ok (.astore 5, 2) := by decide +kernel
theorem dL_tryMark_17 : decode cL_tryMark 17 = .ok (.ldc 18, 2) := by decide +kernel
theorem dL_tryMark_19 : decode cL_tryMark 19 = .ok (.ireturn, 1) := by decide +kernel
def FL_tryMark (T : zT) (p0 : Nat) (p1 : Int32) (p2 : Int32) (p3 : Int32) (p4 : Int32) (h : zH) : Option (Int32 × zH) := zbh (FX6_mark T p0 p1 p2 p3 p4 h) (fun x2 h3 => some (x2, h3)) (fun E4 h5 => if E4 = "java/lang/IndexOutOfBoundsException" then (some ((-9999001 : Int32), h5)) else (if E4 = "java/lang/IllegalArgumentException" then (some ((-9999002 : Int32), h5)) else (none)))
set_option maxHeartbeats 4000000 in
set_option maxRecDepth 100000 in
theorem BL_tryMark {X : zX} (CW : zCW X cL_tryMark 6 RL "tryMark" (some .int) 8 144 [(0, 9, 10, 13), (0, 9, 15, 16)]) {hi : Nat} {h : zH} {p0 : Nat} {p1 : Int32} {p2 : Int32} {p3 : Int32} {p4 : Int32} {r9 : (Int32 × zH)} (hf : FL_tryMark (xT X) p0 p1 p2 p3 p4 h = some r9) : zW X 6 (zZ X false (some (.int r9.1), hi, r9.2)) 2 12 false hi h 0 [(0, .ref p0), (1, .int p1), (2, .int p2), (3, .int p3), (4, .int p4)] [] := by
  have C := CW.1
  unfold FL_tryMark at hf
  refine z_aload_n C dL_tryMark_0 0 rfl rfl ?_
  refine z_iload_n C dL_tryMark_1 1 rfl rfl ?_
  refine z_iload_n C dL_tryMark_2 2 rfl rfl ?_
  refine z_iload_n C dL_tryMark_3 3 rfl rfl ?_
  refine z_iload C dL_tryMark_4 4 rfl ?_
  refine z_callVH (kc' := 0) (ks' := 0) CW hf (fun _ _ e => MX6_mark (xl X) CW.2.2.2.2 (xD X) (xT X) (xlo X) hi e) (fun _ e => OX6_mark e) rfl cw_L_52 yv_X6_mark dL_tryMark_6 rfl (by decide) ⟨rfl, rfl⟩ (Nat.le_of_ble_eq_true rfl) (st := []) rfl ?_ ?_
  · intro x2 h3 hf
    exact z_ireturn C dL_tryMark_9 (by cases hf; rfl)
  · intro E4 h5 hf
    refine z_ite hf (fun c hf => ?_) (fun c hf => ?_)
    · subst c
      refine ⟨[], ⟨0, 9, 10, 13⟩, [⟨0, 9, 15, 16⟩], "java/lang/IndexOutOfBoundsException", rfl, (fun _ hz => nomatch hz), by decide, by decide, mw_604, by decide, fun q9 => ?_⟩
      refine z_astore C dL_tryMark_10 (by decide) (lv' := [(5, .ref q9), (0, .ref p0), (1, .int p1), (2, .int p2), (3, .int p3), (4, .int p4)]) rfl ?_
      refine z_ldc C (v := (-9999001 : Int32)) mw_644 dL_tryMark_12 ?_
      exact z_ireturn C dL_tryMark_14 (by cases hf; rfl)
    · refine z_ite hf (fun c hf => ?_) (fun c hf => ?_)
      · subst c
        refine ⟨[⟨0, 9, 10, 13⟩], ⟨0, 9, 15, 16⟩, [], "java/lang/IllegalArgumentException", rfl, (by intro z hz; rcases List.mem_cons.mp hz with rfl | hz; exact Or.inr ⟨by decide, "java/lang/IndexOutOfBoundsException", mw_604, by decide⟩; exact absurd hz List.not_mem_nil), by decide, by decide, mw_288, by decide, fun q9 => ?_⟩
        refine z_astore C dL_tryMark_15 (by decide) (lv' := [(5, .ref q9), (0, .ref p0), (1, .int p1), (2, .int p2), (3, .int p3), (4, .int p4)]) rfl ?_
        refine z_ldc C (v := (-9999002 : Int32)) mw_467 dL_tryMark_17 ?_
        exact z_ireturn C dL_tryMark_19 (by cases hf; rfl)
      · exact nomatch hf
theorem ML_tryMark (l : Launch) (hl9 : l.stackTraces = false) (D : va_G) (T : zT) (lo : Nat) (hi : Nat) {h : zH} {p0 : Nat} {p1 : Int32} {p2 : Int32} {p3 : Int32} {p4 : Int32} {v9 : Int32} {h9 : zH} (hf : FL_tryMark T p0 p1 p2 p3 p4 h = some (v9, h9)) : zMW l yL_tryMark (.codeWith yL_tryMark cL_tryMark 6 (some .int) [(0, 9, 10, 13), (0, 9, 15, 16)] :: TW) ({ frames := 8, cells := 2, slots := 12, locals := 144 } : Room) D T lo [.ref p0, .int p1, .int p2, .int p3, .int p4] hi h (some (.int v9), hi, h9) :=
  z_enterW hl9 (own := RL) (nm := "tryMark") (lv := [(0, .ref p0), (1, .int p1), (2, .int p2), (3, .int p3), (4, .int p4)]) (by decide +kernel) rfl rfl (Nat.le_of_ble_eq_true rfl) rfl (fun _ _ _ _ _ _ _ _ C => BL_tryMark C hf)
theorem dL_tryLength_0 : decode cL_tryLength 0 = .ok (.aload_n 0, 1) := by decide +kernel
theorem dL_tryLength_1 : decode cL_tryLength 1 = .ok (.iload_n 1, 1) := by decide +kernel
theorem dL_tryLength_2 : decode cL_tryLength 2 = .ok (.iload_n 2, 1) := by decide +kernel
theorem dL_tryLength_3 : decode cL_tryLength 3 = .ok (.invokevirtual 56, 3) := by decide +kernel
theorem dL_tryLength_6 : decode cL_tryLength 6 = .ok (.ireturn, 1) := by decide +kernel
theorem dL_tryLength_7 : decode cL_tryLength 7 = .ok (.astore_n 3, 1) := by decide +kernel
theorem dL_tryLength_8 : decode cL_tryLength 8 = .ok (.ldc 15, 2) := by decide +kernel
theorem dL_tryLength_10 : decode cL_tryLength 10 = .ok (.ireturn, 1) := by decide +kernel
def FL_tryLength (T : zT) (p0 : Nat) (p1 : Int32) (p2 : Int32) (h : zH) : Option (Int32 × zH) := zbh (FX6_wordLength T p0 p1 p2 h) (fun x2 h3 => some (x2, h3)) (fun E4 h5 => if E4 = "java/lang/IndexOutOfBoundsException" then (some ((-9999001 : Int32), h5)) else (none))
set_option maxHeartbeats 4000000 in
set_option maxRecDepth 100000 in
theorem BL_tryLength {X : zX} (CW : zCW X cL_tryLength 4 RL "tryLength" (some .int) 8 170 [(0, 6, 7, 13)]) {hi : Nat} {h : zH} {p0 : Nat} {p1 : Int32} {p2 : Int32} {r9 : (Int32 × zH)} (hf : FL_tryLength (xT X) p0 p1 p2 h = some r9) : zW X 4 (zZ X false (some (.int r9.1), hi, r9.2)) 2 12 false hi h 0 [(0, .ref p0), (1, .int p1), (2, .int p2)] [] := by
  have C := CW.1
  unfold FL_tryLength at hf
  refine z_aload_n C dL_tryLength_0 0 rfl rfl ?_
  refine z_iload_n C dL_tryLength_1 1 rfl rfl ?_
  refine z_iload_n C dL_tryLength_2 2 rfl rfl ?_
  refine z_callVH (kc' := 0) (ks' := 0) CW hf (fun _ _ e => MX6_wordLength (xl X) CW.2.2.2.2 (xD X) (xT X) (xlo X) hi e) (fun _ e => OX6_wordLength e) rfl cw_L_56 yv_X6_wordLength dL_tryLength_3 rfl (by decide) ⟨rfl, rfl⟩ (Nat.le_of_ble_eq_true rfl) (st := []) rfl ?_ ?_
  · intro x2 h3 hf
    exact z_ireturn C dL_tryLength_6 (by cases hf; rfl)
  · intro E4 h5 hf
    refine z_ite hf (fun c hf => ?_) (fun c hf => ?_)
    · subst c
      refine ⟨[], ⟨0, 6, 7, 13⟩, [], "java/lang/IndexOutOfBoundsException", rfl, (fun _ hz => nomatch hz), by decide, by decide, mw_604, by decide, fun q9 => ?_⟩
      refine z_astore_n C dL_tryLength_7 rfl (by decide) (lv' := [(3, .ref q9), (0, .ref p0), (1, .int p1), (2, .int p2)]) rfl ?_
      refine z_ldc C (v := (-9999001 : Int32)) mw_644 dL_tryLength_8 ?_
      exact z_ireturn C dL_tryLength_10 (by cases hf; rfl)
    · exact nomatch hf
theorem ML_tryLength (l : Launch) (hl9 : l.stackTraces = false) (D : va_G) (T : zT) (lo : Nat) (hi : Nat) {h : zH} {p0 : Nat} {p1 : Int32} {p2 : Int32} {v9 : Int32} {h9 : zH} (hf : FL_tryLength T p0 p1 p2 h = some (v9, h9)) : zMW l yL_tryLength (.codeWith yL_tryLength cL_tryLength 4 (some .int) [(0, 6, 7, 13)] :: TW) ({ frames := 8, cells := 2, slots := 12, locals := 170 } : Room) D T lo [.ref p0, .int p1, .int p2] hi h (some (.int v9), hi, h9) :=
  z_enterW hl9 (own := RL) (nm := "tryLength") (lv := [(0, .ref p0), (1, .int p1), (2, .int p2)]) (by decide +kernel) rfl rfl (Nat.le_of_ble_eq_true rfl) rfl (fun _ _ _ _ _ _ _ _ C => BL_tryLength C hf)
theorem dL_trySign_0 : decode cL_trySign 0 = .ok (.aload_n 0, 1) := by decide +kernel
theorem dL_trySign_1 : decode cL_trySign 1 = .ok (.iload_n 1, 1) := by decide +kernel
theorem dL_trySign_2 : decode cL_trySign 2 = .ok (.iload_n 2, 1) := by decide +kernel
theorem dL_trySign_3 : decode cL_trySign 3 = .ok (.iload_n 3, 1) := by decide +kernel
theorem dL_trySign_4 : decode cL_trySign 4 = .ok (.invokevirtual 59, 3) := by decide +kernel
theorem dL_trySign_7 : decode cL_trySign 7 = .ok (.ireturn, 1) := by decide +kernel
theorem dL_trySign_8 : decode cL_trySign 8 = .ok (.astore 4, 2) := by decide +kernel
theorem dL_trySign_10 : decode cL_trySign 10 = .ok (.ldc 15, 2) := by decide +kernel
theorem dL_trySign_12 : decode cL_trySign 12 = .ok (.ireturn, 1) := by decide +kernel
theorem dL_trySign_13 : decode cL_trySign 13 = .ok (.astore 4, 2) := by decide +kernel
theorem dL_trySign_15 : decode cL_trySign 15 = .ok (.ldc 18, 2) := by decide +kernel
theorem dL_trySign_17 : decode cL_trySign 17 = .ok (.ireturn, 1) := by decide +kernel
def FL_trySign (T : zT) (p0 : Nat) (p1 : Int32) (p2 : Int32) (p3 : Int32) (h : zH) : Option (Int32 × zH) := zbh (FX6_sign T p0 p1 p2 p3 h) (fun x2 h3 => some (x2, h3)) (fun E4 h5 => if E4 = "java/lang/IndexOutOfBoundsException" then (some ((-9999001 : Int32), h5)) else (if E4 = "java/lang/IllegalArgumentException" then (some ((-9999002 : Int32), h5)) else (none)))
set_option maxHeartbeats 4000000 in
set_option maxRecDepth 100000 in
theorem BL_trySign {X : zX} (CW : zCW X cL_trySign 5 RL "trySign" (some .int) 8 171 [(0, 7, 8, 13), (0, 7, 13, 16)]) {hi : Nat} {h : zH} {p0 : Nat} {p1 : Int32} {p2 : Int32} {p3 : Int32} {r9 : (Int32 × zH)} (hf : FL_trySign (xT X) p0 p1 p2 p3 h = some r9) : zW X 5 (zZ X false (some (.int r9.1), hi, r9.2)) 3 18 false hi h 0 [(0, .ref p0), (1, .int p1), (2, .int p2), (3, .int p3)] [] := by
  have C := CW.1
  unfold FL_trySign at hf
  refine z_aload_n C dL_trySign_0 0 rfl rfl ?_
  refine z_iload_n C dL_trySign_1 1 rfl rfl ?_
  refine z_iload_n C dL_trySign_2 2 rfl rfl ?_
  refine z_iload_n C dL_trySign_3 3 rfl rfl ?_
  refine z_callVH (kc' := 0) (ks' := 0) CW hf (fun _ _ e => MX6_sign (xl X) CW.2.2.2.2 (xD X) (xT X) (xlo X) hi e) (fun _ e => OX6_sign e) rfl cw_L_59 yv_X6_sign dL_trySign_4 rfl (by decide) ⟨rfl, rfl⟩ (Nat.le_of_ble_eq_true rfl) (st := []) rfl ?_ ?_
  · intro x2 h3 hf
    exact z_ireturn C dL_trySign_7 (by cases hf; rfl)
  · intro E4 h5 hf
    refine z_ite hf (fun c hf => ?_) (fun c hf => ?_)
    · subst c
      refine ⟨[], ⟨0, 7, 8, 13⟩, [⟨0, 7, 13, 16⟩], "java/lang/IndexOutOfBoundsException", rfl, (fun _ hz => nomatch hz), by decide, by decide, mw_604, by decide, fun q9 => ?_⟩
      refine z_astore C dL_trySign_8 (by decide) (lv' := [(4, .ref q9), (0, .ref p0), (1, .int p1), (2, .int p2), (3, .int p3)]) rfl ?_
      refine z_ldc C (v := (-9999001 : Int32)) mw_644 dL_trySign_10 ?_
      exact z_ireturn C dL_trySign_12 (by cases hf; rfl)
    · refine z_ite hf (fun c hf => ?_) (fun c hf => ?_)
      · subst c
        refine ⟨[⟨0, 7, 8, 13⟩], ⟨0, 7, 13, 16⟩, [], "java/lang/IllegalArgumentException", rfl, (by intro z hz; rcases List.mem_cons.mp hz with rfl | hz; exact Or.inr ⟨by decide, "java/lang/IndexOutOfBoundsException", mw_604, by decide⟩; exact absurd hz List.not_mem_nil), by decide, by decide, mw_288, by decide, fun q9 => ?_⟩
        refine z_astore C dL_trySign_13 (by decide) (lv' := [(4, .ref q9), (0, .ref p0), (1, .int p1), (2, .int p2), (3, .int p3)]) rfl ?_
        refine z_ldc C (v := (-9999002 : Int32)) mw_467 dL_trySign_15 ?_
        exact z_ireturn C dL_trySign_17 (by cases hf; rfl)
      · exact nomatch hf
theorem ML_trySign (l : Launch) (hl9 : l.stackTraces = false) (D : va_G) (T : zT) (lo : Nat) (hi : Nat) {h : zH} {p0 : Nat} {p1 : Int32} {p2 : Int32} {p3 : Int32} {v9 : Int32} {h9 : zH} (hf : FL_trySign T p0 p1 p2 p3 h = some (v9, h9)) : zMW l yL_trySign (.codeWith yL_trySign cL_trySign 5 (some .int) [(0, 7, 8, 13), (0, 7, 13, 16)] :: TW) ({ frames := 8, cells := 3, slots := 18, locals := 171 } : Room) D T lo [.ref p0, .int p1, .int p2, .int p3] hi h (some (.int v9), hi, h9) :=
  z_enterW hl9 (own := RL) (nm := "trySign") (lv := [(0, .ref p0), (1, .int p1), (2, .int p2), (3, .int p3)]) (by decide +kernel) rfl rfl (Nat.le_of_ble_eq_true rfl) rfl (fun _ _ _ _ _ _ _ _ C => BL_trySign C hf)
theorem dL_tryAt_0 : decode cL_tryAt 0 = .ok (.aload_n 0, 1) := by decide +kernel
theorem dL_tryAt_1 : decode cL_tryAt 1 = .ok (.iload_n 1, 1) := by decide +kernel
theorem dL_tryAt_2 : decode cL_tryAt 2 = .ok (.iload_n 2, 1) := by decide +kernel
theorem dL_tryAt_3 : decode cL_tryAt 3 = .ok (.iload_n 3, 1) := by decide +kernel
theorem dL_tryAt_4 : decode cL_tryAt 4 = .ok (.invokevirtual 63, 3) := by decide +kernel
theorem dL_tryAt_7 : decode cL_tryAt 7 = .ok (.ireturn, 1) := by decide +kernel
theorem dL_tryAt_8 : decode cL_tryAt 8 = .ok (.astore 4, 2) := by decide +kernel
theorem dL_tryAt_10 : decode cL_tryAt 10 = .ok (.ldc 15, 2) := by decide +kernel
theorem dL_tryAt_12 : decode cL_tryAt 12 = .ok (.ireturn, 1) := by decide +kernel
def FL_tryAt (T : zT) (p0 : Nat) (p1 : Int32) (p2 : Int32) (p3 : Int32) (h : zH) : Option (Int32 × zH) := zbh (FX6_wordAt T p0 p1 p2 p3 h) (fun x2 h3 => some (x2, h3)) (fun E4 h5 => if E4 = "java/lang/IndexOutOfBoundsException" then (some ((-9999001 : Int32), h5)) else (none))
set_option maxHeartbeats 4000000 in
set_option maxRecDepth 100000 in
theorem BL_tryAt {X : zX} (CW : zCW X cL_tryAt 5 RL "tryAt" (some .int) 8 171 [(0, 7, 8, 13)]) {hi : Nat} {h : zH} {p0 : Nat} {p1 : Int32} {p2 : Int32} {p3 : Int32} {r9 : (Int32 × zH)} (hf : FL_tryAt (xT X) p0 p1 p2 p3 h = some r9) : zW X 5 (zZ X false (some (.int r9.1), hi, r9.2)) 2 12 false hi h 0 [(0, .ref p0), (1, .int p1), (2, .int p2), (3, .int p3)] [] := by
  have C := CW.1
  unfold FL_tryAt at hf
  refine z_aload_n C dL_tryAt_0 0 rfl rfl ?_
  refine z_iload_n C dL_tryAt_1 1 rfl rfl ?_
  refine z_iload_n C dL_tryAt_2 2 rfl rfl ?_
  refine z_iload_n C dL_tryAt_3 3 rfl rfl ?_
  refine z_callVH (kc' := 0) (ks' := 0) CW hf (fun _ _ e => MX6_wordAt (xl X) CW.2.2.2.2 (xD X) (xT X) (xlo X) hi e) (fun _ e => OX6_wordAt e) rfl cw_L_63 yv_X6_wordAt dL_tryAt_4 rfl (by decide) ⟨rfl, rfl⟩ (Nat.le_of_ble_eq_true rfl) (st := []) rfl ?_ ?_
  · intro x2 h3 hf
    exact z_ireturn C dL_tryAt_7 (by cases hf; rfl)
  · intro E4 h5 hf
    refine z_ite hf (fun c hf => ?_) (fun c hf => ?_)
    · subst c
      refine ⟨[], ⟨0, 7, 8, 13⟩, [], "java/lang/IndexOutOfBoundsException", rfl, (fun _ hz => nomatch hz), by decide, by decide, mw_604, by decide, fun q9 => ?_⟩
      refine z_astore C dL_tryAt_8 (by decide) (lv' := [(4, .ref q9), (0, .ref p0), (1, .int p1), (2, .int p2), (3, .int p3)]) rfl ?_
      refine z_ldc C (v := (-9999001 : Int32)) mw_644 dL_tryAt_10 ?_
      exact z_ireturn C dL_tryAt_12 (by cases hf; rfl)
    · exact nomatch hf
theorem ML_tryAt (l : Launch) (hl9 : l.stackTraces = false) (D : va_G) (T : zT) (lo : Nat) (hi : Nat) {h : zH} {p0 : Nat} {p1 : Int32} {p2 : Int32} {p3 : Int32} {v9 : Int32} {h9 : zH} (hf : FL_tryAt T p0 p1 p2 p3 h = some (v9, h9)) : zMW l yL_tryAt (.codeWith yL_tryAt cL_tryAt 5 (some .int) [(0, 7, 8, 13)] :: TW) ({ frames := 8, cells := 2, slots := 12, locals := 171 } : Room) D T lo [.ref p0, .int p1, .int p2, .int p3] hi h (some (.int v9), hi, h9) :=
  z_enterW hl9 (own := RL) (nm := "tryAt") (lv := [(0, .ref p0), (1, .int p1), (2, .int p2), (3, .int p3)]) (by decide +kernel) rfl rfl (Nat.le_of_ble_eq_true rfl) rfl (fun _ _ _ _ _ _ _ _ C => BL_tryAt C hf)
theorem dL_tryErase_0 : decode cL_tryErase 0 = .ok (.aload_n 0, 1) := by decide +kernel
theorem dL_tryErase_1 : decode cL_tryErase 1 = .ok (.iload_n 1, 1) := by decide +kernel
theorem dL_tryErase_2 : decode cL_tryErase 2 = .ok (.iload_n 2, 1) := by decide +kernel
theorem dL_tryErase_3 : decode cL_tryErase 3 = .ok (.iload_n 3, 1) := by decide +kernel
theorem dL_tryErase_4 : decode cL_tryErase 4 = .ok (.invokevirtual 66, 3) := by decide +kernel
theorem dL_tryErase_7 : decode cL_tryErase 7 = .ok (.ireturn, 1) := by decide +kernel
theorem dL_tryErase_8 : decode cL_tryErase 8 = .ok (.astore 4, 2) := by decide +kernel
theorem dL_tryErase_10 : decode cL_tryErase 10 = .ok (.ldc 15, 2) := by decide +kernel
theorem dL_tryErase_12 : decode cL_tryErase 12 = .ok (.ireturn, 1) := by decide +kernel
def FL_tryErase (T : zT) (p0 : Nat) (p1 : Int32) (p2 : Int32) (p3 : Int32) (h : zH) : Option (Int32 × zH) := zbh (FX6_erase T p0 p1 p2 p3 h) (fun x2 h3 => some (x2, h3)) (fun E4 h5 => if E4 = "java/lang/IndexOutOfBoundsException" then (some ((-9999001 : Int32), h5)) else (none))
set_option maxHeartbeats 4000000 in
set_option maxRecDepth 100000 in
theorem BL_tryErase {X : zX} (CW : zCW X cL_tryErase 5 RL "tryErase" (some .int) 8 137 [(0, 7, 8, 13)]) {hi : Nat} {h : zH} {p0 : Nat} {p1 : Int32} {p2 : Int32} {p3 : Int32} {r9 : (Int32 × zH)} (hf : FL_tryErase (xT X) p0 p1 p2 p3 h = some r9) : zW X 5 (zZ X false (some (.int r9.1), hi, r9.2)) 1 6 false hi h 0 [(0, .ref p0), (1, .int p1), (2, .int p2), (3, .int p3)] [] := by
  have C := CW.1
  unfold FL_tryErase at hf
  refine z_aload_n C dL_tryErase_0 0 rfl rfl ?_
  refine z_iload_n C dL_tryErase_1 1 rfl rfl ?_
  refine z_iload_n C dL_tryErase_2 2 rfl rfl ?_
  refine z_iload_n C dL_tryErase_3 3 rfl rfl ?_
  refine z_callVH (kc' := 0) (ks' := 0) CW hf (fun _ _ e => MX6_erase (xl X) CW.2.2.2.2 (xD X) (xT X) (xlo X) hi e) (fun _ e => OX6_erase e) rfl cw_L_66 yv_X6_erase dL_tryErase_4 rfl (by decide) ⟨rfl, rfl⟩ (Nat.le_of_ble_eq_true rfl) (st := []) rfl ?_ ?_
  · intro x2 h3 hf
    exact z_ireturn C dL_tryErase_7 (by cases hf; rfl)
  · intro E4 h5 hf
    refine z_ite hf (fun c hf => ?_) (fun c hf => ?_)
    · subst c
      refine ⟨[], ⟨0, 7, 8, 13⟩, [], "java/lang/IndexOutOfBoundsException", rfl, (fun _ hz => nomatch hz), by decide, by decide, mw_604, by decide, fun q9 => ?_⟩
      refine z_astore C dL_tryErase_8 (by decide) (lv' := [(4, .ref q9), (0, .ref p0), (1, .int p1), (2, .int p2), (3, .int p3)]) rfl ?_
      refine z_ldc C (v := (-9999001 : Int32)) mw_644 dL_tryErase_10 ?_
      exact z_ireturn C dL_tryErase_12 (by cases hf; rfl)
    · exact nomatch hf
theorem ML_tryErase (l : Launch) (hl9 : l.stackTraces = false) (D : va_G) (T : zT) (lo : Nat) (hi : Nat) {h : zH} {p0 : Nat} {p1 : Int32} {p2 : Int32} {p3 : Int32} {v9 : Int32} {h9 : zH} (hf : FL_tryErase T p0 p1 p2 p3 h = some (v9, h9)) : zMW l yL_tryErase (.codeWith yL_tryErase cL_tryErase 5 (some .int) [(0, 7, 8, 13)] :: TW) ({ frames := 8, cells := 1, slots := 6, locals := 137 } : Room) D T lo [.ref p0, .int p1, .int p2, .int p3] hi h (some (.int v9), hi, h9) :=
  z_enterW hl9 (own := RL) (nm := "tryErase") (lv := [(0, .ref p0), (1, .int p1), (2, .int p2), (3, .int p3)]) (by decide +kernel) rfl rfl (Nat.le_of_ble_eq_true rfl) rfl (fun _ _ _ _ _ _ _ _ C => BL_tryErase C hf)
theorem dL_tryDecide_0 : decode cL_tryDecide 0 = .ok (.aload_n 0, 1) := by decide +kernel
theorem dL_tryDecide_1 : decode cL_tryDecide 1 = .ok (.iload_n 1, 1) := by decide +kernel
theorem dL_tryDecide_2 : decode cL_tryDecide 2 = .ok (.iload_n 2, 1) := by decide +kernel
theorem dL_tryDecide_3 : decode cL_tryDecide 3 = .ok (.iload_n 3, 1) := by decide +kernel
theorem dL_tryDecide_4 : decode cL_tryDecide 4 = .ok (.iload 4, 2) := by decide +kernel
theorem dL_tryDecide_6 : decode cL_tryDecide 6 = .ok (.invokevirtual 69, 3) := by decide +kernel
theorem dL_tryDecide_9 : decode cL_tryDecide 9 = .ok (.ireturn, 1) := by decide +kernel
theorem dL_tryDecide_10 : decode cL_tryDecide 10 = .ok (.astore 5, 2) := by decide +kernel
theorem dL_tryDecide_12 : decode cL_tryDecide 12 = .ok (.ldc 15, 2) := by decide +kernel
theorem dL_tryDecide_14 : decode cL_tryDecide 14 = .ok (.ireturn, 1) := by decide +kernel
theorem dL_tryDecide_15 : decode cL_tryDecide 15 = .ok (.astore 5, 2) := by decide +kernel
theorem dL_tryDecide_17 : decode cL_tryDecide 17 = .ok (.ldc 18, 2) := by decide +kernel
theorem dL_tryDecide_19 : decode cL_tryDecide 19 = .ok (.ireturn, 1) := by decide +kernel
theorem dL_tryDecide_20 : decode cL_tryDecide 20 = .ok (.astore 5, 2) := by decide +kernel
theorem dL_tryDecide_22 : decode cL_tryDecide 22 = .ok (.ldc 21, 2) := by decide +kernel
theorem dL_tryDecide_24 : decode cL_tryDecide 24 = .ok (.ireturn, 1) := by decide +kernel
def FL_tryDecide (T : zT) (p0 : Nat) (p1 : Int32) (p2 : Int32) (p3 : Int32) (p4 : Int32) (h : zH) : Option (Int32 × zH) := zbh (FX6_decide T p0 p1 p2 p3 p4 h) (fun x2 h3 => some (x2, h3)) (fun E4 h5 => if E4 = "java/lang/IndexOutOfBoundsException" then (some ((-9999001 : Int32), h5)) else (if E4 = "java/lang/IllegalArgumentException" then (some ((-9999002 : Int32), h5)) else (if E4 = "java/lang/IllegalStateException" then (some ((-9999003 : Int32), h5)) else (none))))
set_option maxHeartbeats 4000000 in
set_option maxRecDepth 100000 in
theorem BL_tryDecide {X : zX} (CW : zCW X cL_tryDecide 6 RL "tryDecide" (some .int) 8 142 [(0, 9, 10, 13), (0, 9, 15, 16), (0, 9, 20, 19)]) {hi : Nat} {h : zH} {p0 : Nat} {p1 : Int32} {p2 : Int32} {p3 : Int32} {p4 : Int32} {r9 : (Int32 × zH)} (hf : FL_tryDecide (xT X) p0 p1 p2 p3 p4 h = some r9) : zW X 6 (zZ X false (some (.int r9.1), hi, r9.2)) 3 18 false hi h 0 [(0, .ref p0), (1, .int p1), (2, .int p2), (3, .int p3), (4, .int p4)] [] := by
  have C := CW.1
  unfold FL_tryDecide at hf
  refine z_aload_n C dL_tryDecide_0 0 rfl rfl ?_
  refine z_iload_n C dL_tryDecide_1 1 rfl rfl ?_
  refine z_iload_n C dL_tryDecide_2 2 rfl rfl ?_
  refine z_iload_n C dL_tryDecide_3 3 rfl rfl ?_
  refine z_iload C dL_tryDecide_4 4 rfl ?_
  refine z_callVH (kc' := 0) (ks' := 0) CW hf (fun _ _ e => MX6_decide (xl X) CW.2.2.2.2 (xD X) (xT X) (xlo X) hi e) (fun _ e => OX6_decide e) rfl cw_L_69 yv_X6_decide dL_tryDecide_6 rfl (by decide) ⟨rfl, rfl⟩ (Nat.le_of_ble_eq_true rfl) (st := []) rfl ?_ ?_
  · intro x2 h3 hf
    exact z_ireturn C dL_tryDecide_9 (by cases hf; rfl)
  · intro E4 h5 hf
    refine z_ite hf (fun c hf => ?_) (fun c hf => ?_)
    · subst c
      refine ⟨[], ⟨0, 9, 10, 13⟩, [⟨0, 9, 15, 16⟩, ⟨0, 9, 20, 19⟩], "java/lang/IndexOutOfBoundsException", rfl, (fun _ hz => nomatch hz), by decide, by decide, mw_604, by decide, fun q9 => ?_⟩
      refine z_astore C dL_tryDecide_10 (by decide) (lv' := [(5, .ref q9), (0, .ref p0), (1, .int p1), (2, .int p2), (3, .int p3), (4, .int p4)]) rfl ?_
      refine z_ldc C (v := (-9999001 : Int32)) mw_644 dL_tryDecide_12 ?_
      exact z_ireturn C dL_tryDecide_14 (by cases hf; rfl)
    · refine z_ite hf (fun c hf => ?_) (fun c hf => ?_)
      · subst c
        refine ⟨[⟨0, 9, 10, 13⟩], ⟨0, 9, 15, 16⟩, [⟨0, 9, 20, 19⟩], "java/lang/IllegalArgumentException", rfl, (by intro z hz; rcases List.mem_cons.mp hz with rfl | hz; exact Or.inr ⟨by decide, "java/lang/IndexOutOfBoundsException", mw_604, by decide⟩; exact absurd hz List.not_mem_nil), by decide, by decide, mw_288, by decide, fun q9 => ?_⟩
        refine z_astore C dL_tryDecide_15 (by decide) (lv' := [(5, .ref q9), (0, .ref p0), (1, .int p1), (2, .int p2), (3, .int p3), (4, .int p4)]) rfl ?_
        refine z_ldc C (v := (-9999002 : Int32)) mw_467 dL_tryDecide_17 ?_
        exact z_ireturn C dL_tryDecide_19 (by cases hf; rfl)
      · refine z_ite hf (fun c hf => ?_) (fun c hf => ?_)
        · subst c
          refine ⟨[⟨0, 9, 10, 13⟩, ⟨0, 9, 15, 16⟩], ⟨0, 9, 20, 19⟩, [], "java/lang/IllegalStateException", rfl, (by intro z hz; rcases List.mem_cons.mp hz with rfl | hz; exact Or.inr ⟨by decide, "java/lang/IndexOutOfBoundsException", mw_604, by decide⟩; rcases List.mem_cons.mp hz with rfl | hz; exact Or.inr ⟨by decide, "java/lang/IllegalArgumentException", mw_288, by decide⟩; exact absurd hz List.not_mem_nil), by decide, by decide, mw_486, by decide, fun q9 => ?_⟩
          refine z_astore C dL_tryDecide_20 (by decide) (lv' := [(5, .ref q9), (0, .ref p0), (1, .int p1), (2, .int p2), (3, .int p3), (4, .int p4)]) rfl ?_
          refine z_ldc C (v := (-9999003 : Int32)) mw_508 dL_tryDecide_22 ?_
          exact z_ireturn C dL_tryDecide_24 (by cases hf; rfl)
        · exact nomatch hf
theorem ML_tryDecide (l : Launch) (hl9 : l.stackTraces = false) (D : va_G) (T : zT) (lo : Nat) (hi : Nat) {h : zH} {p0 : Nat} {p1 : Int32} {p2 : Int32} {p3 : Int32} {p4 : Int32} {v9 : Int32} {h9 : zH} (hf : FL_tryDecide T p0 p1 p2 p3 p4 h = some (v9, h9)) : zMW l yL_tryDecide (.codeWith yL_tryDecide cL_tryDecide 6 (some .int) [(0, 9, 10, 13), (0, 9, 15, 16), (0, 9, 20, 19)] :: TW) ({ frames := 8, cells := 3, slots := 18, locals := 142 } : Room) D T lo [.ref p0, .int p1, .int p2, .int p3, .int p4] hi h (some (.int v9), hi, h9) :=
  z_enterW hl9 (own := RL) (nm := "tryDecide") (lv := [(0, .ref p0), (1, .int p1), (2, .int p2), (3, .int p3), (4, .int p4)]) (by decide +kernel) rfl rfl (Nat.le_of_ble_eq_true rfl) rfl (fun _ _ _ _ _ _ _ _ C => BL_tryDecide C hf)
theorem dL_tryPen_0 : decode cL_tryPen 0 = .ok (.aload_n 0, 1) := by decide +kernel
theorem dL_tryPen_1 : decode cL_tryPen 1 = .ok (.iload_n 1, 1) := by decide +kernel
theorem dL_tryPen_2 : decode cL_tryPen 2 = .ok (.iload_n 2, 1) := by decide +kernel
theorem dL_tryPen_3 : decode cL_tryPen 3 = .ok (.iload_n 3, 1) := by decide +kernel
theorem dL_tryPen_4 : decode cL_tryPen 4 = .ok (.iload 4, 2) := by decide +kernel
theorem dL_tryPen_6 : decode cL_tryPen 6 = .ok (.invokevirtual 72, 3) := by decide +kernel
theorem dL_tryPen_9 : decode cL_tryPen 9 = .ok (.ireturn, 1) := by decide +kernel
theorem dL_tryPen_10 : decode cL_tryPen 10 = .ok (.astore 5, 2) := by decide +kernel
theorem dL_tryPen_12 : decode cL_tryPen 12 = .ok (.ldc 15, 2) := by decide +kernel
theorem dL_tryPen_14 : decode cL_tryPen 14 = .ok (.ireturn, 1) := by decide +kernel
theorem dL_tryPen_15 : decode cL_tryPen 15 = .ok (.astore 5, 2) := by decide +kernel
theorem dL_tryPen_17 : decode cL_tryPen 17 = .ok (.ldc 18, 2) := by decide +kernel
theorem dL_tryPen_19 : decode cL_tryPen 19 = .ok (.ireturn, 1) := by decide +kernel
def FL_tryPen (T : zT) (p0 : Nat) (p1 : Int32) (p2 : Int32) (p3 : Int32) (p4 : Int32) (h : zH) : Option (Int32 × zH) := zbh (FX6_setLetter T p0 p1 p2 p3 p4 h) (fun x2 h3 => some (x2, h3)) (fun E4 h5 => if E4 = "java/lang/IndexOutOfBoundsException" then (some ((-9999001 : Int32), h5)) else (if E4 = "java/lang/IllegalArgumentException" then (some ((-9999002 : Int32), h5)) else (none)))
set_option maxHeartbeats 4000000 in
set_option maxRecDepth 100000 in
theorem BL_tryPen {X : zX} (CW : zCW X cL_tryPen 6 RL "tryPen" (some .int) 8 142 [(0, 9, 10, 13), (0, 9, 15, 16)]) {hi : Nat} {h : zH} {p0 : Nat} {p1 : Int32} {p2 : Int32} {p3 : Int32} {p4 : Int32} {r9 : (Int32 × zH)} (hf : FL_tryPen (xT X) p0 p1 p2 p3 p4 h = some r9) : zW X 6 (zZ X false (some (.int r9.1), hi, r9.2)) 4 24 false hi h 0 [(0, .ref p0), (1, .int p1), (2, .int p2), (3, .int p3), (4, .int p4)] [] := by
  have C := CW.1
  unfold FL_tryPen at hf
  refine z_aload_n C dL_tryPen_0 0 rfl rfl ?_
  refine z_iload_n C dL_tryPen_1 1 rfl rfl ?_
  refine z_iload_n C dL_tryPen_2 2 rfl rfl ?_
  refine z_iload_n C dL_tryPen_3 3 rfl rfl ?_
  refine z_iload C dL_tryPen_4 4 rfl ?_
  refine z_callVH (kc' := 0) (ks' := 0) CW hf (fun _ _ e => MX6_setLetter (xl X) CW.2.2.2.2 (xD X) (xT X) (xlo X) hi e) (fun _ e => OX6_setLetter e) rfl cw_L_72 yv_X6_setLetter dL_tryPen_6 rfl (by decide) ⟨rfl, rfl⟩ (Nat.le_of_ble_eq_true rfl) (st := []) rfl ?_ ?_
  · intro x2 h3 hf
    exact z_ireturn C dL_tryPen_9 (by cases hf; rfl)
  · intro E4 h5 hf
    refine z_ite hf (fun c hf => ?_) (fun c hf => ?_)
    · subst c
      refine ⟨[], ⟨0, 9, 10, 13⟩, [⟨0, 9, 15, 16⟩], "java/lang/IndexOutOfBoundsException", rfl, (fun _ hz => nomatch hz), by decide, by decide, mw_604, by decide, fun q9 => ?_⟩
      refine z_astore C dL_tryPen_10 (by decide) (lv' := [(5, .ref q9), (0, .ref p0), (1, .int p1), (2, .int p2), (3, .int p3), (4, .int p4)]) rfl ?_
      refine z_ldc C (v := (-9999001 : Int32)) mw_644 dL_tryPen_12 ?_
      exact z_ireturn C dL_tryPen_14 (by cases hf; rfl)
    · refine z_ite hf (fun c hf => ?_) (fun c hf => ?_)
      · subst c
        refine ⟨[⟨0, 9, 10, 13⟩], ⟨0, 9, 15, 16⟩, [], "java/lang/IllegalArgumentException", rfl, (by intro z hz; rcases List.mem_cons.mp hz with rfl | hz; exact Or.inr ⟨by decide, "java/lang/IndexOutOfBoundsException", mw_604, by decide⟩; exact absurd hz List.not_mem_nil), by decide, by decide, mw_288, by decide, fun q9 => ?_⟩
        refine z_astore C dL_tryPen_15 (by decide) (lv' := [(5, .ref q9), (0, .ref p0), (1, .int p1), (2, .int p2), (3, .int p3), (4, .int p4)]) rfl ?_
        refine z_ldc C (v := (-9999002 : Int32)) mw_467 dL_tryPen_17 ?_
        exact z_ireturn C dL_tryPen_19 (by cases hf; rfl)
      · exact nomatch hf
theorem ML_tryPen (l : Launch) (hl9 : l.stackTraces = false) (D : va_G) (T : zT) (lo : Nat) (hi : Nat) {h : zH} {p0 : Nat} {p1 : Int32} {p2 : Int32} {p3 : Int32} {p4 : Int32} {v9 : Int32} {h9 : zH} (hf : FL_tryPen T p0 p1 p2 p3 p4 h = some (v9, h9)) : zMW l yL_tryPen (.codeWith yL_tryPen cL_tryPen 6 (some .int) [(0, 9, 10, 13), (0, 9, 15, 16)] :: TW) ({ frames := 8, cells := 4, slots := 24, locals := 142 } : Room) D T lo [.ref p0, .int p1, .int p2, .int p3, .int p4] hi h (some (.int v9), hi, h9) :=
  z_enterW hl9 (own := RL) (nm := "tryPen") (lv := [(0, .ref p0), (1, .int p1), (2, .int p2), (3, .int p3), (4, .int p4)]) (by decide +kernel) rfl rfl (Nat.le_of_ble_eq_true rfl) rfl (fun _ _ _ _ _ _ _ _ C => BL_tryPen C hf)
theorem dL_tryMargin_0 : decode cL_tryMargin 0 = .ok (.aload_n 0, 1) := by decide +kernel
theorem dL_tryMargin_1 : decode cL_tryMargin 1 = .ok (.iload_n 1, 1) := by decide +kernel
theorem dL_tryMargin_2 : decode cL_tryMargin 2 = .ok (.invokevirtual 75, 3) := by decide +kernel
theorem dL_tryMargin_5 : decode cL_tryMargin 5 = .ok (.ireturn, 1) := by decide +kernel
theorem dL_tryMargin_6 : decode cL_tryMargin 6 = .ok (.astore_n 2, 1) := by decide +kernel
theorem dL_tryMargin_7 : decode cL_tryMargin 7 = .ok (.ldc 18, 2) := by decide +kernel
theorem dL_tryMargin_9 : decode cL_tryMargin 9 = .ok (.ireturn, 1) := by decide +kernel
def FL_tryMargin (T : zT) (p0 : Nat) (p1 : Int32) (h : zH) : Option (Int32 × zH) := zbh (FX6_setMargin T p0 p1 h) (fun x2 h3 => some (x2, h3)) (fun E4 h5 => if E4 = "java/lang/IllegalArgumentException" then (some ((-9999002 : Int32), h5)) else (none))
set_option maxHeartbeats 4000000 in
set_option maxRecDepth 100000 in
theorem BL_tryMargin {X : zX} (CW : zCW X cL_tryMargin 3 RL "tryMargin" (some .int) 8 134 [(0, 5, 6, 16)]) {hi : Nat} {h : zH} {p0 : Nat} {p1 : Int32} {r9 : (Int32 × zH)} (hf : FL_tryMargin (xT X) p0 p1 h = some r9) : zW X 3 (zZ X false (some (.int r9.1), hi, r9.2)) 1 6 false hi h 0 [(0, .ref p0), (1, .int p1)] [] := by
  have C := CW.1
  unfold FL_tryMargin at hf
  refine z_aload_n C dL_tryMargin_0 0 rfl rfl ?_
  refine z_iload_n C dL_tryMargin_1 1 rfl rfl ?_
  refine z_callVH (kc' := 0) (ks' := 0) CW hf (fun _ _ e => MX6_setMargin (xl X) CW.2.2.2.2 (xD X) (xT X) (xlo X) hi e) (fun _ e => OX6_setMargin e) rfl cw_L_75 yv_X6_setMargin dL_tryMargin_2 rfl (by decide) ⟨rfl, rfl⟩ (Nat.le_of_ble_eq_true rfl) (st := []) rfl ?_ ?_
  · intro x2 h3 hf
    exact z_ireturn C dL_tryMargin_5 (by cases hf; rfl)
  · intro E4 h5 hf
    refine z_ite hf (fun c hf => ?_) (fun c hf => ?_)
    · subst c
      refine ⟨[], ⟨0, 5, 6, 16⟩, [], "java/lang/IllegalArgumentException", rfl, (fun _ hz => nomatch hz), by decide, by decide, mw_288, by decide, fun q9 => ?_⟩
      refine z_astore_n C dL_tryMargin_6 rfl (by decide) (lv' := [(2, .ref q9), (0, .ref p0), (1, .int p1)]) rfl ?_
      refine z_ldc C (v := (-9999002 : Int32)) mw_467 dL_tryMargin_7 ?_
      exact z_ireturn C dL_tryMargin_9 (by cases hf; rfl)
    · exact nomatch hf
theorem ML_tryMargin (l : Launch) (hl9 : l.stackTraces = false) (D : va_G) (T : zT) (lo : Nat) (hi : Nat) {h : zH} {p0 : Nat} {p1 : Int32} {v9 : Int32} {h9 : zH} (hf : FL_tryMargin T p0 p1 h = some (v9, h9)) : zMW l yL_tryMargin (.codeWith yL_tryMargin cL_tryMargin 3 (some .int) [(0, 5, 6, 16)] :: TW) ({ frames := 8, cells := 1, slots := 6, locals := 134 } : Room) D T lo [.ref p0, .int p1] hi h (some (.int v9), hi, h9) :=
  z_enterW hl9 (own := RL) (nm := "tryMargin") (lv := [(0, .ref p0), (1, .int p1)]) (by decide +kernel) rfl rfl (Nat.le_of_ble_eq_true rfl) rfl (fun _ _ _ _ _ _ _ _ C => BL_tryMargin C hf)
theorem dL_tryGap_0 : decode cL_tryGap 0 = .ok (.aload_n 0, 1) := by decide +kernel
theorem dL_tryGap_1 : decode cL_tryGap 1 = .ok (.iload_n 1, 1) := by decide +kernel
theorem dL_tryGap_2 : decode cL_tryGap 2 = .ok (.invokevirtual 78, 3) := by decide +kernel
theorem dL_tryGap_5 : decode cL_tryGap 5 = .ok (.ireturn, 1) := by decide +kernel
theorem dL_tryGap_6 : decode cL_tryGap 6 = .ok (.astore_n 2, 1) := by decide +kernel
theorem dL_tryGap_7 : decode cL_tryGap 7 = .ok (.ldc 18, 2) := by decide +kernel
theorem dL_tryGap_9 : decode cL_tryGap 9 = .ok (.ireturn, 1) := by decide +kernel
def FL_tryGap (T : zT) (p0 : Nat) (p1 : Int32) (h : zH) : Option (Int32 × zH) := zbh (FX6_setGap T p0 p1 h) (fun x2 h3 => some (x2, h3)) (fun E4 h5 => if E4 = "java/lang/IllegalArgumentException" then (some ((-9999002 : Int32), h5)) else (none))
set_option maxHeartbeats 4000000 in
set_option maxRecDepth 100000 in
theorem BL_tryGap {X : zX} (CW : zCW X cL_tryGap 3 RL "tryGap" (some .int) 8 134 [(0, 5, 6, 16)]) {hi : Nat} {h : zH} {p0 : Nat} {p1 : Int32} {r9 : (Int32 × zH)} (hf : FL_tryGap (xT X) p0 p1 h = some r9) : zW X 3 (zZ X false (some (.int r9.1), hi, r9.2)) 1 6 false hi h 0 [(0, .ref p0), (1, .int p1)] [] := by
  have C := CW.1
  unfold FL_tryGap at hf
  refine z_aload_n C dL_tryGap_0 0 rfl rfl ?_
  refine z_iload_n C dL_tryGap_1 1 rfl rfl ?_
  refine z_callVH (kc' := 0) (ks' := 0) CW hf (fun _ _ e => MX6_setGap (xl X) CW.2.2.2.2 (xD X) (xT X) (xlo X) hi e) (fun _ e => OX6_setGap e) rfl cw_L_78 yv_X6_setGap dL_tryGap_2 rfl (by decide) ⟨rfl, rfl⟩ (Nat.le_of_ble_eq_true rfl) (st := []) rfl ?_ ?_
  · intro x2 h3 hf
    exact z_ireturn C dL_tryGap_5 (by cases hf; rfl)
  · intro E4 h5 hf
    refine z_ite hf (fun c hf => ?_) (fun c hf => ?_)
    · subst c
      refine ⟨[], ⟨0, 5, 6, 16⟩, [], "java/lang/IllegalArgumentException", rfl, (fun _ hz => nomatch hz), by decide, by decide, mw_288, by decide, fun q9 => ?_⟩
      refine z_astore_n C dL_tryGap_6 rfl (by decide) (lv' := [(2, .ref q9), (0, .ref p0), (1, .int p1)]) rfl ?_
      refine z_ldc C (v := (-9999002 : Int32)) mw_467 dL_tryGap_7 ?_
      exact z_ireturn C dL_tryGap_9 (by cases hf; rfl)
    · exact nomatch hf
theorem ML_tryGap (l : Launch) (hl9 : l.stackTraces = false) (D : va_G) (T : zT) (lo : Nat) (hi : Nat) {h : zH} {p0 : Nat} {p1 : Int32} {v9 : Int32} {h9 : zH} (hf : FL_tryGap T p0 p1 h = some (v9, h9)) : zMW l yL_tryGap (.codeWith yL_tryGap cL_tryGap 3 (some .int) [(0, 5, 6, 16)] :: TW) ({ frames := 8, cells := 1, slots := 6, locals := 134 } : Room) D T lo [.ref p0, .int p1] hi h (some (.int v9), hi, h9) :=
  z_enterW hl9 (own := RL) (nm := "tryGap") (lv := [(0, .ref p0), (1, .int p1)]) (by decide +kernel) rfl rfl (Nat.le_of_ble_eq_true rfl) rfl (fun _ _ _ _ _ _ _ _ C => BL_tryGap C hf)
theorem dL_tryUndo_0 : decode cL_tryUndo 0 = .ok (.aload_n 0, 1) := by decide +kernel
theorem dL_tryUndo_1 : decode cL_tryUndo 1 = .ok (.invokevirtual 81, 3) := by decide +kernel
theorem dL_tryUndo_4 : decode cL_tryUndo 4 = .ok (.ireturn, 1) := by decide +kernel
theorem dL_tryUndo_5 : decode cL_tryUndo 5 = .ok (.astore_n 1, 1) := by decide +kernel
theorem dL_tryUndo_6 : decode cL_tryUndo 6 = .ok (.ldc 21, 2) := by decide +kernel
theorem dL_tryUndo_8 : decode cL_tryUndo 8 = .ok (.ireturn, 1) := by decide +kernel
def FL_tryUndo (T : zT) (p0 : Nat) (h : zH) : Option (Int32 × zH) := zbh (FX6_undo T p0 h) (fun x2 h3 => some (x2, h3)) (fun E4 h5 => if E4 = "java/lang/IllegalStateException" then (some ((-9999003 : Int32), h5)) else (none))
set_option maxHeartbeats 4000000 in
set_option maxRecDepth 100000 in
theorem BL_tryUndo {X : zX} (CW : zCW X cL_tryUndo 2 RL "tryUndo" (some .int) 7 132 [(0, 4, 5, 19)]) {hi : Nat} {h : zH} {p0 : Nat} {r9 : (Int32 × zH)} (hf : FL_tryUndo (xT X) p0 h = some r9) : zW X 2 (zZ X false (some (.int r9.1), hi, r9.2)) 1 6 false hi h 0 [(0, .ref p0)] [] := by
  have C := CW.1
  unfold FL_tryUndo at hf
  refine z_aload_n C dL_tryUndo_0 0 rfl rfl ?_
  refine z_callVH (kc' := 0) (ks' := 0) CW hf (fun _ _ e => MX6_undo (xl X) CW.2.2.2.2 (xD X) (xT X) (xlo X) hi e) (fun _ e => OX6_undo e) rfl cw_L_81 yv_X6_undo dL_tryUndo_1 rfl (by decide) ⟨rfl, rfl⟩ (Nat.le_of_ble_eq_true rfl) (st := []) rfl ?_ ?_
  · intro x2 h3 hf
    exact z_ireturn C dL_tryUndo_4 (by cases hf; rfl)
  · intro E4 h5 hf
    refine z_ite hf (fun c hf => ?_) (fun c hf => ?_)
    · subst c
      refine ⟨[], ⟨0, 4, 5, 19⟩, [], "java/lang/IllegalStateException", rfl, (fun _ hz => nomatch hz), by decide, by decide, mw_486, by decide, fun q9 => ?_⟩
      refine z_astore_n C dL_tryUndo_5 rfl (by decide) (lv' := [(1, .ref q9), (0, .ref p0)]) rfl ?_
      refine z_ldc C (v := (-9999003 : Int32)) mw_508 dL_tryUndo_6 ?_
      exact z_ireturn C dL_tryUndo_8 (by cases hf; rfl)
    · exact nomatch hf
theorem ML_tryUndo (l : Launch) (hl9 : l.stackTraces = false) (D : va_G) (T : zT) (lo : Nat) (hi : Nat) {h : zH} {p0 : Nat} {v9 : Int32} {h9 : zH} (hf : FL_tryUndo T p0 h = some (v9, h9)) : zMW l yL_tryUndo (.codeWith yL_tryUndo cL_tryUndo 2 (some .int) [(0, 4, 5, 19)] :: TW) ({ frames := 7, cells := 1, slots := 6, locals := 132 } : Room) D T lo [.ref p0] hi h (some (.int v9), hi, h9) :=
  z_enterW hl9 (own := RL) (nm := "tryUndo") (lv := [(0, .ref p0)]) (by decide +kernel) rfl rfl (Nat.le_of_ble_eq_true rfl) rfl (fun _ _ _ _ _ _ _ _ C => BL_tryUndo C hf)
theorem dL_tryCount_0 : decode cL_tryCount 0 = .ok (.aload_n 0, 1) := by decide +kernel
theorem dL_tryCount_1 : decode cL_tryCount 1 = .ok (.iload_n 1, 1) := by decide +kernel
theorem dL_tryCount_2 : decode cL_tryCount 2 = .ok (.iload_n 2, 1) := by decide +kernel
theorem dL_tryCount_3 : decode cL_tryCount 3 = .ok (.invokevirtual 84, 3) := by decide +kernel
theorem dL_tryCount_6 : decode cL_tryCount 6 = .ok (.ireturn, 1) := by decide +kernel
theorem dL_tryCount_7 : decode cL_tryCount 7 = .ok (.astore_n 3, 1) := by decide +kernel
theorem dL_tryCount_8 : decode cL_tryCount 8 = .ok (.ldc 15, 2) := by decide +kernel
theorem dL_tryCount_10 : decode cL_tryCount 10 = .ok (.ireturn, 1) := by decide +kernel
theorem dL_tryCount_11 : decode cL_tryCount 11 = .ok (.astore_n 3, 1) := by decide +kernel
theorem dL_tryCount_12 : decode cL_tryCount 12 = .ok (.ldc 18, 2) := by decide +kernel
theorem dL_tryCount_14 : decode cL_tryCount 14 = .ok (.ireturn, 1) := by decide +kernel
def FL_tryCount (T : zT) (p0 : Nat) (p1 : Int32) (p2 : Int32) (h : zH) : Option (Int32 × zH) := zbh (FX6_count T p0 p1 p2 h) (fun x2 h3 => some (x2, h3)) (fun E4 h5 => if E4 = "java/lang/IndexOutOfBoundsException" then (some ((-9999001 : Int32), h5)) else (if E4 = "java/lang/IllegalArgumentException" then (some ((-9999002 : Int32), h5)) else (none)))
set_option maxHeartbeats 4000000 in
set_option maxRecDepth 100000 in
theorem BL_tryCount {X : zX} (CW : zCW X cL_tryCount 4 RL "tryCount" (some .int) 8 170 [(0, 6, 7, 13), (0, 6, 11, 16)]) {hi : Nat} {h : zH} {p0 : Nat} {p1 : Int32} {p2 : Int32} {r9 : (Int32 × zH)} (hf : FL_tryCount (xT X) p0 p1 p2 h = some r9) : zW X 4 (zZ X false (some (.int r9.1), hi, r9.2)) 2 12 false hi h 0 [(0, .ref p0), (1, .int p1), (2, .int p2)] [] := by
  have C := CW.1
  unfold FL_tryCount at hf
  refine z_aload_n C dL_tryCount_0 0 rfl rfl ?_
  refine z_iload_n C dL_tryCount_1 1 rfl rfl ?_
  refine z_iload_n C dL_tryCount_2 2 rfl rfl ?_
  refine z_callVH (kc' := 0) (ks' := 0) CW hf (fun _ _ e => MX6_count (xl X) CW.2.2.2.2 (xD X) (xT X) (xlo X) hi e) (fun _ e => OX6_count e) rfl cw_L_84 yv_X6_count dL_tryCount_3 rfl (by decide) ⟨rfl, rfl⟩ (Nat.le_of_ble_eq_true rfl) (st := []) rfl ?_ ?_
  · intro x2 h3 hf
    exact z_ireturn C dL_tryCount_6 (by cases hf; rfl)
  · intro E4 h5 hf
    refine z_ite hf (fun c hf => ?_) (fun c hf => ?_)
    · subst c
      refine ⟨[], ⟨0, 6, 7, 13⟩, [⟨0, 6, 11, 16⟩], "java/lang/IndexOutOfBoundsException", rfl, (fun _ hz => nomatch hz), by decide, by decide, mw_604, by decide, fun q9 => ?_⟩
      refine z_astore_n C dL_tryCount_7 rfl (by decide) (lv' := [(3, .ref q9), (0, .ref p0), (1, .int p1), (2, .int p2)]) rfl ?_
      refine z_ldc C (v := (-9999001 : Int32)) mw_644 dL_tryCount_8 ?_
      exact z_ireturn C dL_tryCount_10 (by cases hf; rfl)
    · refine z_ite hf (fun c hf => ?_) (fun c hf => ?_)
      · subst c
        refine ⟨[⟨0, 6, 7, 13⟩], ⟨0, 6, 11, 16⟩, [], "java/lang/IllegalArgumentException", rfl, (by intro z hz; rcases List.mem_cons.mp hz with rfl | hz; exact Or.inr ⟨by decide, "java/lang/IndexOutOfBoundsException", mw_604, by decide⟩; exact absurd hz List.not_mem_nil), by decide, by decide, mw_288, by decide, fun q9 => ?_⟩
        refine z_astore_n C dL_tryCount_11 rfl (by decide) (lv' := [(3, .ref q9), (0, .ref p0), (1, .int p1), (2, .int p2)]) rfl ?_
        refine z_ldc C (v := (-9999002 : Int32)) mw_467 dL_tryCount_12 ?_
        exact z_ireturn C dL_tryCount_14 (by cases hf; rfl)
      · exact nomatch hf
theorem ML_tryCount (l : Launch) (hl9 : l.stackTraces = false) (D : va_G) (T : zT) (lo : Nat) (hi : Nat) {h : zH} {p0 : Nat} {p1 : Int32} {p2 : Int32} {v9 : Int32} {h9 : zH} (hf : FL_tryCount T p0 p1 p2 h = some (v9, h9)) : zMW l yL_tryCount (.codeWith yL_tryCount cL_tryCount 4 (some .int) [(0, 6, 7, 13), (0, 6, 11, 16)] :: TW) ({ frames := 8, cells := 2, slots := 12, locals := 170 } : Room) D T lo [.ref p0, .int p1, .int p2] hi h (some (.int v9), hi, h9) :=
  z_enterW hl9 (own := RL) (nm := "tryCount") (lv := [(0, .ref p0), (1, .int p1), (2, .int p2)]) (by decide +kernel) rfl rfl (Nat.le_of_ble_eq_true rfl) rfl (fun _ _ _ _ _ _ _ _ C => BL_tryCount C hf)
theorem dL_tryBest_0 : decode cL_tryBest 0 = .ok (.aload_n 0, 1) := by decide +kernel
theorem dL_tryBest_1 : decode cL_tryBest 1 = .ok (.iload_n 1, 1) := by decide +kernel
theorem dL_tryBest_2 : decode cL_tryBest 2 = .ok (.invokevirtual 87, 3) := by decide +kernel
theorem dL_tryBest_5 : decode cL_tryBest 5 = .ok (.ireturn, 1) := by decide +kernel
theorem dL_tryBest_6 : decode cL_tryBest 6 = .ok (.astore_n 2, 1) := by decide +kernel
theorem dL_tryBest_7 : decode cL_tryBest 7 = .ok (.ldc 15, 2) := by decide +kernel
theorem dL_tryBest_9 : decode cL_tryBest 9 = .ok (.ireturn, 1) := by decide +kernel
def FL_tryBest (T : zT) (p0 : Nat) (p1 : Int32) (h : zH) : Option (Int32 × zH) := zbh (FX6_bestPen T p0 p1 h) (fun x2 h3 => some (x2, h3)) (fun E4 h5 => if E4 = "java/lang/IndexOutOfBoundsException" then (some ((-9999001 : Int32), h5)) else (none))
set_option maxHeartbeats 4000000 in
set_option maxRecDepth 100000 in
theorem BL_tryBest {X : zX} (CW : zCW X cL_tryBest 3 RL "tryBest" (some .int) 8 144 [(0, 5, 6, 13)]) {hi : Nat} {h : zH} {p0 : Nat} {p1 : Int32} {r9 : (Int32 × zH)} (hf : FL_tryBest (xT X) p0 p1 h = some r9) : zW X 3 (zZ X false (some (.int r9.1), hi, r9.2)) 1 6 false hi h 0 [(0, .ref p0), (1, .int p1)] [] := by
  have C := CW.1
  unfold FL_tryBest at hf
  refine z_aload_n C dL_tryBest_0 0 rfl rfl ?_
  refine z_iload_n C dL_tryBest_1 1 rfl rfl ?_
  refine z_callVH (kc' := 0) (ks' := 0) CW hf (fun _ _ e => MX6_bestPen (xl X) CW.2.2.2.2 (xD X) (xT X) (xlo X) hi e) (fun _ e => OX6_bestPen e) rfl cw_L_87 yv_X6_bestPen dL_tryBest_2 rfl (by decide) ⟨rfl, rfl⟩ (Nat.le_of_ble_eq_true rfl) (st := []) rfl ?_ ?_
  · intro x2 h3 hf
    exact z_ireturn C dL_tryBest_5 (by cases hf; rfl)
  · intro E4 h5 hf
    refine z_ite hf (fun c hf => ?_) (fun c hf => ?_)
    · subst c
      refine ⟨[], ⟨0, 5, 6, 13⟩, [], "java/lang/IndexOutOfBoundsException", rfl, (fun _ hz => nomatch hz), by decide, by decide, mw_604, by decide, fun q9 => ?_⟩
      refine z_astore_n C dL_tryBest_6 rfl (by decide) (lv' := [(2, .ref q9), (0, .ref p0), (1, .int p1)]) rfl ?_
      refine z_ldc C (v := (-9999001 : Int32)) mw_644 dL_tryBest_7 ?_
      exact z_ireturn C dL_tryBest_9 (by cases hf; rfl)
    · exact nomatch hf
theorem ML_tryBest (l : Launch) (hl9 : l.stackTraces = false) (D : va_G) (T : zT) (lo : Nat) (hi : Nat) {h : zH} {p0 : Nat} {p1 : Int32} {v9 : Int32} {h9 : zH} (hf : FL_tryBest T p0 p1 h = some (v9, h9)) : zMW l yL_tryBest (.codeWith yL_tryBest cL_tryBest 3 (some .int) [(0, 5, 6, 13)] :: TW) ({ frames := 8, cells := 1, slots := 6, locals := 144 } : Room) D T lo [.ref p0, .int p1] hi h (some (.int v9), hi, h9) :=
  z_enterW hl9 (own := RL) (nm := "tryBest") (lv := [(0, .ref p0), (1, .int p1)]) (by decide +kernel) rfl rfl (Nat.le_of_ble_eq_true rfl) rfl (fun _ _ _ _ _ _ _ _ C => BL_tryBest C hf)
theorem dL_tryClears_0 : decode cL_tryClears 0 = .ok (.aload_n 0, 1) := by decide +kernel
theorem dL_tryClears_1 : decode cL_tryClears 1 = .ok (.iload_n 1, 1) := by decide +kernel
theorem dL_tryClears_2 : decode cL_tryClears 2 = .ok (.invokevirtual 90, 3) := by decide +kernel
theorem dL_tryClears_5 : decode cL_tryClears 5 = .ok (.ireturn, 1) := by decide +kernel
theorem dL_tryClears_6 : decode cL_tryClears 6 = .ok (.astore_n 2, 1) := by decide +kernel
theorem dL_tryClears_7 : decode cL_tryClears 7 = .ok (.ldc 15, 2) := by decide +kernel
theorem dL_tryClears_9 : decode cL_tryClears 9 = .ok (.ireturn, 1) := by decide +kernel
def FL_tryClears (T : zT) (p0 : Nat) (p1 : Int32) (h : zH) : Option (Int32 × zH) := zbh (FX6_bestDecision T p0 p1 h) (fun x2 h3 => some (x2, h3)) (fun E4 h5 => if E4 = "java/lang/IndexOutOfBoundsException" then (some ((-9999001 : Int32), h5)) else (none))
set_option maxHeartbeats 4000000 in
set_option maxRecDepth 100000 in
theorem BL_tryClears {X : zX} (CW : zCW X cL_tryClears 3 RL "tryClears" (some .int) 8 143 [(0, 5, 6, 13)]) {hi : Nat} {h : zH} {p0 : Nat} {p1 : Int32} {r9 : (Int32 × zH)} (hf : FL_tryClears (xT X) p0 p1 h = some r9) : zW X 3 (zZ X false (some (.int r9.1), hi, r9.2)) 1 6 false hi h 0 [(0, .ref p0), (1, .int p1)] [] := by
  have C := CW.1
  unfold FL_tryClears at hf
  refine z_aload_n C dL_tryClears_0 0 rfl rfl ?_
  refine z_iload_n C dL_tryClears_1 1 rfl rfl ?_
  refine z_callVH (kc' := 0) (ks' := 0) CW hf (fun _ _ e => MX6_bestDecision (xl X) CW.2.2.2.2 (xD X) (xT X) (xlo X) hi e) (fun _ e => OX6_bestDecision e) rfl cw_L_90 yv_X6_bestDecision dL_tryClears_2 rfl (by decide) ⟨rfl, rfl⟩ (Nat.le_of_ble_eq_true rfl) (st := []) rfl ?_ ?_
  · intro x2 h3 hf
    exact z_ireturn C dL_tryClears_5 (by cases hf; rfl)
  · intro E4 h5 hf
    refine z_ite hf (fun c hf => ?_) (fun c hf => ?_)
    · subst c
      refine ⟨[], ⟨0, 5, 6, 13⟩, [], "java/lang/IndexOutOfBoundsException", rfl, (fun _ hz => nomatch hz), by decide, by decide, mw_604, by decide, fun q9 => ?_⟩
      refine z_astore_n C dL_tryClears_6 rfl (by decide) (lv' := [(2, .ref q9), (0, .ref p0), (1, .int p1)]) rfl ?_
      refine z_ldc C (v := (-9999001 : Int32)) mw_644 dL_tryClears_7 ?_
      exact z_ireturn C dL_tryClears_9 (by cases hf; rfl)
    · exact nomatch hf
theorem ML_tryClears (l : Launch) (hl9 : l.stackTraces = false) (D : va_G) (T : zT) (lo : Nat) (hi : Nat) {h : zH} {p0 : Nat} {p1 : Int32} {v9 : Int32} {h9 : zH} (hf : FL_tryClears T p0 p1 h = some (v9, h9)) : zMW l yL_tryClears (.codeWith yL_tryClears cL_tryClears 3 (some .int) [(0, 5, 6, 13)] :: TW) ({ frames := 8, cells := 1, slots := 6, locals := 143 } : Room) D T lo [.ref p0, .int p1] hi h (some (.int v9), hi, h9) :=
  z_enterW hl9 (own := RL) (nm := "tryClears") (lv := [(0, .ref p0), (1, .int p1)]) (by decide +kernel) rfl rfl (Nat.le_of_ble_eq_true rfl) rfl (fun _ _ _ _ _ _ _ _ C => BL_tryClears C hf)
theorem dL_tryWith_0 : decode cL_tryWith 0 = .ok (.aload_n 0, 1) := by decide +kernel
theorem dL_tryWith_1 : decode cL_tryWith 1 = .ok (.iload_n 1, 1) := by decide +kernel
theorem dL_tryWith_2 : decode cL_tryWith 2 = .ok (.iload_n 2, 1) := by decide +kernel
theorem dL_tryWith_3 : decode cL_tryWith 3 = .ok (.invokevirtual 93, 3) := by decide +kernel
theorem dL_tryWith_6 : decode cL_tryWith 6 = .ok (.ireturn, 1) := by decide +kernel
theorem dL_tryWith_7 : decode cL_tryWith 7 = .ok (.astore_n 3, 1) := by decide +kernel
theorem dL_tryWith_8 : decode cL_tryWith 8 = .ok (.ldc 15, 2) := by decide +kernel
theorem dL_tryWith_10 : decode cL_tryWith 10 = .ok (.ireturn, 1) := by decide +kernel
theorem dL_tryWith_11 : decode cL_tryWith 11 = .ok (.astore_n 3, 1) := by decide +kernel
theorem dL_tryWith_12 : decode cL_tryWith 12 = .ok (.ldc 18, 2) := by decide +kernel
theorem dL_tryWith_14 : decode cL_tryWith 14 = .ok (.ireturn, 1) := by decide +kernel
def FL_tryWith (T : zT) (p0 : Nat) (p1 : Int32) (p2 : Int32) (h : zH) : Option (Int32 × zH) := zbh (FX6_wordsWith T p0 p1 p2 h) (fun x2 h3 => some (x2, h3)) (fun E4 h5 => if E4 = "java/lang/IndexOutOfBoundsException" then (some ((-9999001 : Int32), h5)) else (if E4 = "java/lang/IllegalArgumentException" then (some ((-9999002 : Int32), h5)) else (none)))
set_option maxHeartbeats 4000000 in
set_option maxRecDepth 100000 in
theorem BL_tryWith {X : zX} (CW : zCW X cL_tryWith 4 RL "tryWith" (some .int) 8 149 [(0, 6, 7, 13), (0, 6, 11, 16)]) {hi : Nat} {h : zH} {p0 : Nat} {p1 : Int32} {p2 : Int32} {r9 : (Int32 × zH)} (hf : FL_tryWith (xT X) p0 p1 p2 h = some r9) : zW X 4 (zZ X false (some (.int r9.1), hi, r9.2)) 2 12 false hi h 0 [(0, .ref p0), (1, .int p1), (2, .int p2)] [] := by
  have C := CW.1
  unfold FL_tryWith at hf
  refine z_aload_n C dL_tryWith_0 0 rfl rfl ?_
  refine z_iload_n C dL_tryWith_1 1 rfl rfl ?_
  refine z_iload_n C dL_tryWith_2 2 rfl rfl ?_
  refine z_callVH (kc' := 0) (ks' := 0) CW hf (fun _ _ e => MX6_wordsWith (xl X) CW.2.2.2.2 (xD X) (xT X) (xlo X) hi e) (fun _ e => OX6_wordsWith e) rfl cw_L_93 yv_X6_wordsWith dL_tryWith_3 rfl (by decide) ⟨rfl, rfl⟩ (Nat.le_of_ble_eq_true rfl) (st := []) rfl ?_ ?_
  · intro x2 h3 hf
    exact z_ireturn C dL_tryWith_6 (by cases hf; rfl)
  · intro E4 h5 hf
    refine z_ite hf (fun c hf => ?_) (fun c hf => ?_)
    · subst c
      refine ⟨[], ⟨0, 6, 7, 13⟩, [⟨0, 6, 11, 16⟩], "java/lang/IndexOutOfBoundsException", rfl, (fun _ hz => nomatch hz), by decide, by decide, mw_604, by decide, fun q9 => ?_⟩
      refine z_astore_n C dL_tryWith_7 rfl (by decide) (lv' := [(3, .ref q9), (0, .ref p0), (1, .int p1), (2, .int p2)]) rfl ?_
      refine z_ldc C (v := (-9999001 : Int32)) mw_644 dL_tryWith_8 ?_
      exact z_ireturn C dL_tryWith_10 (by cases hf; rfl)
    · refine z_ite hf (fun c hf => ?_) (fun c hf => ?_)
      · subst c
        refine ⟨[⟨0, 6, 7, 13⟩], ⟨0, 6, 11, 16⟩, [], "java/lang/IllegalArgumentException", rfl, (by intro z hz; rcases List.mem_cons.mp hz with rfl | hz; exact Or.inr ⟨by decide, "java/lang/IndexOutOfBoundsException", mw_604, by decide⟩; exact absurd hz List.not_mem_nil), by decide, by decide, mw_288, by decide, fun q9 => ?_⟩
        refine z_astore_n C dL_tryWith_11 rfl (by decide) (lv' := [(3, .ref q9), (0, .ref p0), (1, .int p1), (2, .int p2)]) rfl ?_
        refine z_ldc C (v := (-9999002 : Int32)) mw_467 dL_tryWith_12 ?_
        exact z_ireturn C dL_tryWith_14 (by cases hf; rfl)
      · exact nomatch hf
theorem ML_tryWith (l : Launch) (hl9 : l.stackTraces = false) (D : va_G) (T : zT) (lo : Nat) (hi : Nat) {h : zH} {p0 : Nat} {p1 : Int32} {p2 : Int32} {v9 : Int32} {h9 : zH} (hf : FL_tryWith T p0 p1 p2 h = some (v9, h9)) : zMW l yL_tryWith (.codeWith yL_tryWith cL_tryWith 4 (some .int) [(0, 6, 7, 13), (0, 6, 11, 16)] :: TW) ({ frames := 8, cells := 2, slots := 12, locals := 149 } : Room) D T lo [.ref p0, .int p1, .int p2] hi h (some (.int v9), hi, h9) :=
  z_enterW hl9 (own := RL) (nm := "tryWith") (lv := [(0, .ref p0), (1, .int p1), (2, .int p2)]) (by decide +kernel) rfl rfl (Nat.le_of_ble_eq_true rfl) rfl (fun _ _ _ _ _ _ _ _ C => BL_tryWith C hf)
theorem dL_trySave_0 : decode cL_trySave 0 = .ok (.aload_n 0, 1) := by decide +kernel
theorem dL_trySave_1 : decode cL_trySave 1 = .ok (.iload_n 1, 1) := by decide +kernel
theorem dL_trySave_2 : decode cL_trySave 2 = .ok (.invokevirtual 96, 3) := by decide +kernel
theorem dL_trySave_5 : decode cL_trySave 5 = .ok (.ireturn, 1) := by decide +kernel
theorem dL_trySave_6 : decode cL_trySave 6 = .ok (.astore_n 2, 1) := by decide +kernel
theorem dL_trySave_7 : decode cL_trySave 7 = .ok (.ldc 15, 2) := by decide +kernel
theorem dL_trySave_9 : decode cL_trySave 9 = .ok (.ireturn, 1) := by decide +kernel
def FL_trySave (T : zT) (p0 : Nat) (p1 : Int32) (h : zH) : Option (Int32 × zH) := zbh (FX6_save T p0 p1 h) (fun x2 h3 => some (x2, h3)) (fun E4 h5 => if E4 = "java/lang/IndexOutOfBoundsException" then (some ((-9999001 : Int32), h5)) else (none))
set_option maxHeartbeats 4000000 in
set_option maxRecDepth 100000 in
theorem BL_trySave {X : zX} (CW : zCW X cL_trySave 3 RL "trySave" (some .int) 8 131 [(0, 5, 6, 13)]) {hi : Nat} {h : zH} {p0 : Nat} {p1 : Int32} {r9 : (Int32 × zH)} (hf : FL_trySave (xT X) p0 p1 h = some r9) : zW X 3 (zZ X false (some (.int r9.1), hi, r9.2)) 1 6 false hi h 0 [(0, .ref p0), (1, .int p1)] [] := by
  have C := CW.1
  unfold FL_trySave at hf
  refine z_aload_n C dL_trySave_0 0 rfl rfl ?_
  refine z_iload_n C dL_trySave_1 1 rfl rfl ?_
  refine z_callVH (kc' := 0) (ks' := 0) CW hf (fun _ _ e => MX6_save (xl X) CW.2.2.2.2 (xD X) (xT X) (xlo X) hi e) (fun _ e => OX6_save e) rfl cw_L_96 yv_X6_save dL_trySave_2 rfl (by decide) ⟨rfl, rfl⟩ (Nat.le_of_ble_eq_true rfl) (st := []) rfl ?_ ?_
  · intro x2 h3 hf
    exact z_ireturn C dL_trySave_5 (by cases hf; rfl)
  · intro E4 h5 hf
    refine z_ite hf (fun c hf => ?_) (fun c hf => ?_)
    · subst c
      refine ⟨[], ⟨0, 5, 6, 13⟩, [], "java/lang/IndexOutOfBoundsException", rfl, (fun _ hz => nomatch hz), by decide, by decide, mw_604, by decide, fun q9 => ?_⟩
      refine z_astore_n C dL_trySave_6 rfl (by decide) (lv' := [(2, .ref q9), (0, .ref p0), (1, .int p1)]) rfl ?_
      refine z_ldc C (v := (-9999001 : Int32)) mw_644 dL_trySave_7 ?_
      exact z_ireturn C dL_trySave_9 (by cases hf; rfl)
    · exact nomatch hf
theorem ML_trySave (l : Launch) (hl9 : l.stackTraces = false) (D : va_G) (T : zT) (lo : Nat) (hi : Nat) {h : zH} {p0 : Nat} {p1 : Int32} {v9 : Int32} {h9 : zH} (hf : FL_trySave T p0 p1 h = some (v9, h9)) : zMW l yL_trySave (.codeWith yL_trySave cL_trySave 3 (some .int) [(0, 5, 6, 13)] :: TW) ({ frames := 8, cells := 1, slots := 6, locals := 131 } : Room) D T lo [.ref p0, .int p1] hi h (some (.int v9), hi, h9) :=
  z_enterW hl9 (own := RL) (nm := "trySave") (lv := [(0, .ref p0), (1, .int p1)]) (by decide +kernel) rfl rfl (Nat.le_of_ble_eq_true rfl) rfl (fun _ _ _ _ _ _ _ _ C => BL_trySave C hf)
theorem dL_tryRestore_0 : decode cL_tryRestore 0 = .ok (.aload_n 0, 1) := by decide +kernel
theorem dL_tryRestore_1 : decode cL_tryRestore 1 = .ok (.iload_n 1, 1) := by decide +kernel
theorem dL_tryRestore_2 : decode cL_tryRestore 2 = .ok (.invokevirtual 99, 3) := by decide +kernel
theorem dL_tryRestore_5 : decode cL_tryRestore 5 = .ok (.ireturn, 1) := by decide +kernel
theorem dL_tryRestore_6 : decode cL_tryRestore 6 = .ok (.astore_n 2, 1) := by decide +kernel
theorem dL_tryRestore_7 : decode cL_tryRestore 7 = .ok (.ldc 15, 2) := by decide +kernel
theorem dL_tryRestore_9 : decode cL_tryRestore 9 = .ok (.ireturn, 1) := by decide +kernel
theorem dL_tryRestore_10 : decode cL_tryRestore 10 = .ok (.astore_n 2, 1) := by decide +kernel
theorem dL_tryRestore_11 : decode cL_tryRestore 11 = .ok (.ldc 21, 2) := by decide +kernel
theorem dL_tryRestore_13 : decode cL_tryRestore 13 = .ok (.ireturn, 1) := by decide +kernel
def FL_tryRestore (T : zT) (p0 : Nat) (p1 : Int32) (h : zH) : Option (Int32 × zH) := zbh (FX6_restore T p0 p1 h) (fun x2 h3 => some (x2, h3)) (fun E4 h5 => if E4 = "java/lang/IndexOutOfBoundsException" then (some ((-9999001 : Int32), h5)) else (if E4 = "java/lang/IllegalStateException" then (some ((-9999003 : Int32), h5)) else (none)))
set_option maxHeartbeats 4000000 in
set_option maxRecDepth 100000 in
theorem BL_tryRestore {X : zX} (CW : zCW X cL_tryRestore 3 RL "tryRestore" (some .int) 8 131 [(0, 5, 6, 13), (0, 5, 10, 19)]) {hi : Nat} {h : zH} {p0 : Nat} {p1 : Int32} {r9 : (Int32 × zH)} (hf : FL_tryRestore (xT X) p0 p1 h = some r9) : zW X 3 (zZ X false (some (.int r9.1), hi, r9.2)) 2 12 false hi h 0 [(0, .ref p0), (1, .int p1)] [] := by
  have C := CW.1
  unfold FL_tryRestore at hf
  refine z_aload_n C dL_tryRestore_0 0 rfl rfl ?_
  refine z_iload_n C dL_tryRestore_1 1 rfl rfl ?_
  refine z_callVH (kc' := 0) (ks' := 0) CW hf (fun _ _ e => MX6_restore (xl X) CW.2.2.2.2 (xD X) (xT X) (xlo X) hi e) (fun _ e => OX6_restore e) rfl cw_L_99 yv_X6_restore dL_tryRestore_2 rfl (by decide) ⟨rfl, rfl⟩ (Nat.le_of_ble_eq_true rfl) (st := []) rfl ?_ ?_
  · intro x2 h3 hf
    exact z_ireturn C dL_tryRestore_5 (by cases hf; rfl)
  · intro E4 h5 hf
    refine z_ite hf (fun c hf => ?_) (fun c hf => ?_)
    · subst c
      refine ⟨[], ⟨0, 5, 6, 13⟩, [⟨0, 5, 10, 19⟩], "java/lang/IndexOutOfBoundsException", rfl, (fun _ hz => nomatch hz), by decide, by decide, mw_604, by decide, fun q9 => ?_⟩
      refine z_astore_n C dL_tryRestore_6 rfl (by decide) (lv' := [(2, .ref q9), (0, .ref p0), (1, .int p1)]) rfl ?_
      refine z_ldc C (v := (-9999001 : Int32)) mw_644 dL_tryRestore_7 ?_
      exact z_ireturn C dL_tryRestore_9 (by cases hf; rfl)
    · refine z_ite hf (fun c hf => ?_) (fun c hf => ?_)
      · subst c
        refine ⟨[⟨0, 5, 6, 13⟩], ⟨0, 5, 10, 19⟩, [], "java/lang/IllegalStateException", rfl, (by intro z hz; rcases List.mem_cons.mp hz with rfl | hz; exact Or.inr ⟨by decide, "java/lang/IndexOutOfBoundsException", mw_604, by decide⟩; exact absurd hz List.not_mem_nil), by decide, by decide, mw_486, by decide, fun q9 => ?_⟩
        refine z_astore_n C dL_tryRestore_10 rfl (by decide) (lv' := [(2, .ref q9), (0, .ref p0), (1, .int p1)]) rfl ?_
        refine z_ldc C (v := (-9999003 : Int32)) mw_508 dL_tryRestore_11 ?_
        exact z_ireturn C dL_tryRestore_13 (by cases hf; rfl)
      · exact nomatch hf
theorem ML_tryRestore (l : Launch) (hl9 : l.stackTraces = false) (D : va_G) (T : zT) (lo : Nat) (hi : Nat) {h : zH} {p0 : Nat} {p1 : Int32} {v9 : Int32} {h9 : zH} (hf : FL_tryRestore T p0 p1 h = some (v9, h9)) : zMW l yL_tryRestore (.codeWith yL_tryRestore cL_tryRestore 3 (some .int) [(0, 5, 6, 13), (0, 5, 10, 19)] :: TW) ({ frames := 8, cells := 2, slots := 12, locals := 131 } : Room) D T lo [.ref p0, .int p1] hi h (some (.int v9), hi, h9) :=
  z_enterW hl9 (own := RL) (nm := "tryRestore") (lv := [(0, .ref p0), (1, .int p1)]) (by decide +kernel) rfl rfl (Nat.le_of_ble_eq_true rfl) rfl (fun _ _ _ _ _ _ _ _ C => BL_tryRestore C hf)
