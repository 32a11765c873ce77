theorem mw_519 : (Jvm.Cond.classLink "CrossedSheetLaw" (13 : Nat) "java/lang/IllegalArgumentException") ∈ TW := TWm 519 (by decide +kernel) (by decide +kernel)
theorem mw_520 : (Jvm.Cond.classLink "CrossedSheetLaw" (15 : Nat) "java/lang/IllegalStateException") ∈ TW := TWm 520 (by decide +kernel) (by decide +kernel)
theorem mw_521 : (Jvm.Cond.methodLink "CrossedSheetLaw" (7 : Nat) ({ cls := "CrossedSheet", name := "append", desc := "(I)I" } : Jvm.MethodName)) ∈ TW := TWm 521 (by decide +kernel) (by decide +kernel)
theorem mw_522 : (Jvm.Cond.instanceMethod ({ cls := "CrossedSheet", name := "append", desc := "(I)I" } : Jvm.MethodName)) ∈ TW := TWm 522 (by decide +kernel) (by decide +kernel)
theorem mw_523 : (Jvm.Cond.selects "CrossedSheet" ({ cls := "CrossedSheet", name := "append", desc := "(I)I" } : Jvm.MethodName) ({ cls := "CrossedSheet", name := "append", desc := "(I)I" } : Jvm.MethodName)) ∈ TW := TWm 523 (by decide +kernel) (by decide +kernel)
theorem mw_524 : (Jvm.Cond.code ({ cls := "CrossedSheet", name := "append", desc := "(I)I" } : Jvm.MethodName) prog_1_method_2_code (2 : Nat) (Option.some Jvm.ClassFile.FieldType.int)) ∈ TW := TWm 524 (by decide +kernel) (by decide +kernel)
theorem mw_616 : (Jvm.Cond.methodLink "CrossedSheetLaw" (17 : Nat) ({ cls := "CrossedSheet", name := "load", desc := "()I" } : Jvm.MethodName)) ∈ TW := TWm 616 (by decide +kernel) (by decide +kernel)
theorem mw_617 : (Jvm.Cond.instanceMethod ({ cls := "CrossedSheet", name := "load", desc := "()I" } : Jvm.MethodName)) ∈ TW := TWm 617 (by decide +kernel) (by decide +kernel)
theorem mw_618 : (Jvm.Cond.selects "CrossedSheet" ({ cls := "CrossedSheet", name := "load", desc := "()I" } : Jvm.MethodName) ({ cls := "CrossedSheet", name := "load", desc := "()I" } : Jvm.MethodName)) ∈ TW := TWm 618 (by decide +kernel) (by decide +kernel)
theorem mw_619 : (Jvm.Cond.code ({ cls := "CrossedSheet", name := "load", desc := "()I" } : Jvm.MethodName) prog_1_method_5_code (1 : Nat) (Option.some Jvm.ClassFile.FieldType.int)) ∈ TW := TWm 619 (by decide +kernel) (by decide +kernel)
theorem mw_637 : (Jvm.Cond.methodLink "CrossedSheetLaw" (21 : Nat) ({ cls := "CrossedSheet", name := "about", desc := "(I)I" } : Jvm.MethodName)) ∈ TW := TWm 637 (by decide +kernel) (by decide +kernel)
theorem mw_638 : (Jvm.Cond.instanceMethod ({ cls := "CrossedSheet", name := "about", desc := "(I)I" } : Jvm.MethodName)) ∈ TW := TWm 638 (by decide +kernel) (by decide +kernel)
theorem mw_639 : (Jvm.Cond.selects "CrossedSheet" ({ cls := "CrossedSheet", name := "about", desc := "(I)I" } : Jvm.MethodName) ({ cls := "CrossedSheet", name := "about", desc := "(I)I" } : Jvm.MethodName)) ∈ TW := TWm 639 (by decide +kernel) (by decide +kernel)
theorem mw_640 : (Jvm.Cond.code ({ cls := "CrossedSheet", name := "about", desc := "(I)I" } : Jvm.MethodName) prog_1_method_6_code (2 : Nat) (Option.some Jvm.ClassFile.FieldType.int)) ∈ TW := TWm 640 (by decide +kernel) (by decide +kernel)
theorem mw_652 : (Jvm.Cond.classLink "CrossedSheetLaw" (28 : Nat) "java/lang/IndexOutOfBoundsException") ∈ TW := TWm 652 (by decide +kernel) (by decide +kernel)
theorem mw_653 : (Jvm.Cond.methodLink "CrossedSheetLaw" (24 : Nat) ({ cls := "CrossedSheet", name := "letter", desc := "(II)I" } : Jvm.MethodName)) ∈ TW := TWm 653 (by decide +kernel) (by decide +kernel)
theorem mw_654 : (Jvm.Cond.instanceMethod ({ cls := "CrossedSheet", name := "letter", desc := "(II)I" } : Jvm.MethodName)) ∈ TW := TWm 654 (by decide +kernel) (by decide +kernel)
theorem mw_655 : (Jvm.Cond.selects "CrossedSheet" ({ cls := "CrossedSheet", name := "letter", desc := "(II)I" } : Jvm.MethodName) ({ cls := "CrossedSheet", name := "letter", desc := "(II)I" } : Jvm.MethodName)) ∈ TW := TWm 655 (by decide +kernel) (by decide +kernel)
theorem mw_656 : (Jvm.Cond.code ({ cls := "CrossedSheet", name := "letter", desc := "(II)I" } : Jvm.MethodName) prog_1_method_7_code (3 : Nat) (Option.some Jvm.ClassFile.FieldType.int)) ∈ TW := TWm 656 (by decide +kernel) (by decide +kernel)
theorem mw_687 : (Jvm.Cond.methodLink "CrossedSheetLaw" (30 : Nat) ({ cls := "CrossedSheet", name := "marks", desc := "(II)I" } : Jvm.MethodName)) ∈ TW := TWm 687 (by decide +kernel) (by decide +kernel)
theorem mw_688 : (Jvm.Cond.instanceMethod ({ cls := "CrossedSheet", name := "marks", desc := "(II)I" } : Jvm.MethodName)) ∈ TW := TWm 688 (by decide +kernel) (by decide +kernel)
theorem mw_689 : (Jvm.Cond.selects "CrossedSheet" ({ cls := "CrossedSheet", name := "marks", desc := "(II)I" } : Jvm.MethodName) ({ cls := "CrossedSheet", name := "marks", desc := "(II)I" } : Jvm.MethodName)) ∈ TW := TWm 689 (by decide +kernel) (by decide +kernel)
theorem mw_690 : (Jvm.Cond.code ({ cls := "CrossedSheet", name := "marks", desc := "(II)I" } : Jvm.MethodName) prog_1_method_8_code (3 : Nat) (Option.some Jvm.ClassFile.FieldType.int)) ∈ TW := TWm 690 (by decide +kernel) (by decide +kernel)
theorem mw_701 : (Jvm.Cond.methodLink "CrossedSheetLaw" (33 : Nat) ({ cls := "CrossedSheet", name := "mark", desc := "(IIII)I" } : Jvm.MethodName)) ∈ TW := TWm 701 (by decide +kernel) (by decide +kernel)
theorem mw_702 : (Jvm.Cond.instanceMethod ({ cls := "CrossedSheet", name := "mark", desc := "(IIII)I" } : Jvm.MethodName)) ∈ TW := TWm 702 (by decide +kernel) (by decide +kernel)
theorem mw_703 : (Jvm.Cond.selects "CrossedSheet" ({ cls := "CrossedSheet", name := "mark", desc := "(IIII)I" } : Jvm.MethodName) ({ cls := "CrossedSheet", name := "mark", desc := "(IIII)I" } : Jvm.MethodName)) ∈ TW := TWm 703 (by decide +kernel) (by decide +kernel)
theorem mw_704 : (Jvm.Cond.code ({ cls := "CrossedSheet", name := "mark", desc := "(IIII)I" } : Jvm.MethodName) prog_1_method_9_code (6 : Nat) (Option.some Jvm.ClassFile.FieldType.int)) ∈ TW := TWm 704 (by decide +kernel) (by decide +kernel)
theorem mw_724 : (Jvm.Cond.methodLink "CrossedSheetLaw" (37 : Nat) ({ cls := "CrossedSheet", name := "wordLength", desc := "(II)I" } : Jvm.MethodName)) ∈ TW := TWm 724 (by decide +kernel) (by decide +kernel)
theorem mw_725 : (Jvm.Cond.instanceMethod ({ cls := "CrossedSheet", name := "wordLength", desc := "(II)I" } : Jvm.MethodName)) ∈ TW := TWm 725 (by decide +kernel) (by decide +kernel)
theorem mw_726 : (Jvm.Cond.selects "CrossedSheet" ({ cls := "CrossedSheet", name := "wordLength", desc := "(II)I" } : Jvm.MethodName) ({ cls := "CrossedSheet", name := "wordLength", desc := "(II)I" } : Jvm.MethodName)) ∈ TW := TWm 726 (by decide +kernel) (by decide +kernel)
theorem mw_727 : (Jvm.Cond.code ({ cls := "CrossedSheet", name := "wordLength", desc := "(II)I" } : Jvm.MethodName) prog_1_method_10_code (3 : Nat) (Option.some Jvm.ClassFile.FieldType.int)) ∈ TW := TWm 727 (by decide +kernel) (by decide +kernel)
theorem mw_738 : (Jvm.Cond.methodLink "CrossedSheetLaw" (40 : Nat) ({ cls := "CrossedSheet", name := "sign", desc := "(III)I" } : Jvm.MethodName)) ∈ TW := TWm 738 (by decide +kernel) (by decide +kernel)
theorem mw_739 : (Jvm.Cond.instanceMethod ({ cls := "CrossedSheet", name := "sign", desc := "(III)I" } : Jvm.MethodName)) ∈ TW := TWm 739 (by decide +kernel) (by decide +kernel)
theorem mw_740 : (Jvm.Cond.selects "CrossedSheet" ({ cls := "CrossedSheet", name := "sign", desc := "(III)I" } : Jvm.MethodName) ({ cls := "CrossedSheet", name := "sign", desc := "(III)I" } : Jvm.MethodName)) ∈ TW := TWm 740 (by decide +kernel) (by decide +kernel)
theorem mw_741 : (Jvm.Cond.code ({ cls := "CrossedSheet", name := "sign", desc := "(III)I" } : Jvm.MethodName) prog_1_method_11_code (4 : Nat) (Option.some Jvm.ClassFile.FieldType.int)) ∈ TW := TWm 741 (by decide +kernel) (by decide +kernel)
theorem mw_747 : (Jvm.Cond.methodLink "CrossedSheetLaw" (44 : Nat) ({ cls := "CrossedSheet", name := "wordAt", desc := "(III)I" } : Jvm.MethodName)) ∈ TW := TWm 747 (by decide +kernel) (by decide +kernel)
theorem mw_748 : (Jvm.Cond.instanceMethod ({ cls := "CrossedSheet", name := "wordAt", desc := "(III)I" } : Jvm.MethodName)) ∈ TW := TWm 748 (by decide +kernel) (by decide +kernel)
theorem mw_749 : (Jvm.Cond.selects "CrossedSheet" ({ cls := "CrossedSheet", name := "wordAt", desc := "(III)I" } : Jvm.MethodName) ({ cls := "CrossedSheet", name := "wordAt", desc := "(III)I" } : Jvm.MethodName)) ∈ TW := TWm 749 (by decide +kernel) (by decide +kernel)
theorem mw_750 : (Jvm.Cond.code ({ cls := "CrossedSheet", name := "wordAt", desc := "(III)I" } : Jvm.MethodName) prog_1_method_12_code (4 : Nat) (Option.some Jvm.ClassFile.FieldType.int)) ∈ TW := TWm 750 (by decide +kernel) (by decide +kernel)
theorem mw_754 : (Jvm.Cond.methodLink "CrossedSheetLaw" (47 : Nat) ({ cls := "CrossedSheet", name := "write", desc := "(IIIII)I" } : Jvm.MethodName)) ∈ TW := TWm 754 (by decide +kernel) (by decide +kernel)
theorem mw_755 : (Jvm.Cond.instanceMethod ({ cls := "CrossedSheet", name := "write", desc := "(IIIII)I" } : Jvm.MethodName)) ∈ TW := TWm 755 (by decide +kernel) (by decide +kernel)
theorem mw_756 : (Jvm.Cond.selects "CrossedSheet" ({ cls := "CrossedSheet", name := "write", desc := "(IIIII)I" } : Jvm.MethodName) ({ cls := "CrossedSheet", name := "write", desc := "(IIIII)I" } : Jvm.MethodName)) ∈ TW := TWm 756 (by decide +kernel) (by decide +kernel)
theorem mw_757 : (Jvm.Cond.code ({ cls := "CrossedSheet", name := "write", desc := "(IIIII)I" } : Jvm.MethodName) prog_1_method_13_code (7 : Nat) (Option.some Jvm.ClassFile.FieldType.int)) ∈ TW := TWm 757 (by decide +kernel) (by decide +kernel)
theorem mw_764 : (Jvm.Cond.methodLink "CrossedSheetLaw" (51 : Nat) ({ cls := "CrossedSheet", name := "erase", desc := "(III)I" } : Jvm.MethodName)) ∈ TW := TWm 764 (by decide +kernel) (by decide +kernel)
theorem mw_765 : (Jvm.Cond.instanceMethod ({ cls := "CrossedSheet", name := "erase", desc := "(III)I" } : Jvm.MethodName)) ∈ TW := TWm 765 (by decide +kernel) (by decide +kernel)
theorem mw_766 : (Jvm.Cond.selects "CrossedSheet" ({ cls := "CrossedSheet", name := "erase", desc := "(III)I" } : Jvm.MethodName) ({ cls := "CrossedSheet", name := "erase", desc := "(III)I" } : Jvm.MethodName)) ∈ TW := TWm 766 (by decide +kernel) (by decide +kernel)
theorem mw_767 : (Jvm.Cond.code ({ cls := "CrossedSheet", name := "erase", desc := "(III)I" } : Jvm.MethodName) prog_1_method_14_code (5 : Nat) (Option.some Jvm.ClassFile.FieldType.int)) ∈ TW := TWm 767 (by decide +kernel) (by decide +kernel)
theorem mw_775 : (Jvm.Cond.methodLink "CrossedSheetLaw" (54 : Nat) ({ cls := "CrossedSheet", name := "decide", desc := "(IIII)I" } : Jvm.MethodName)) ∈ TW := TWm 775 (by decide +kernel) (by decide +kernel)
theorem mw_776 : (Jvm.Cond.instanceMethod ({ cls := "CrossedSheet", name := "decide", desc := "(IIII)I" } : Jvm.MethodName)) ∈ TW := TWm 776 (by decide +kernel) (by decide +kernel)
theorem mw_777 : (Jvm.Cond.selects "CrossedSheet" ({ cls := "CrossedSheet", name := "decide", desc := "(IIII)I" } : Jvm.MethodName) ({ cls := "CrossedSheet", name := "decide", desc := "(IIII)I" } : Jvm.MethodName)) ∈ TW := TWm 777 (by decide +kernel) (by decide +kernel)
theorem mw_778 : (Jvm.Cond.code ({ cls := "CrossedSheet", name := "decide", desc := "(IIII)I" } : Jvm.MethodName) prog_1_method_15_code (5 : Nat) (Option.some Jvm.ClassFile.FieldType.int)) ∈ TW := TWm 778 (by decide +kernel) (by decide +kernel)
theorem mw_795 : (Jvm.Cond.methodLink "CrossedSheetLaw" (57 : Nat) ({ cls := "CrossedSheet", name := "setLetter", desc := "(IIII)I" } : Jvm.MethodName)) ∈ TW := TWm 795 (by decide +kernel) (by decide +kernel)
theorem mw_796 : (Jvm.Cond.instanceMethod ({ cls := "CrossedSheet", name := "setLetter", desc := "(IIII)I" } : Jvm.MethodName)) ∈ TW := TWm 796 (by decide +kernel) (by decide +kernel)
theorem mw_797 : (Jvm.Cond.selects "CrossedSheet" ({ cls := "CrossedSheet", name := "setLetter", desc := "(IIII)I" } : Jvm.MethodName) ({ cls := "CrossedSheet", name := "setLetter", desc := "(IIII)I" } : Jvm.MethodName)) ∈ TW := TWm 797 (by decide +kernel) (by decide +kernel)
theorem mw_798 : (Jvm.Cond.code ({ cls := "CrossedSheet", name := "setLetter", desc := "(IIII)I" } : Jvm.MethodName) prog_1_method_16_code (5 : Nat) (Option.some Jvm.ClassFile.FieldType.int)) ∈ TW := TWm 798 (by decide +kernel) (by decide +kernel)
theorem mw_803 : (Jvm.Cond.methodLink "CrossedSheetLaw" (60 : Nat) ({ cls := "CrossedSheet", name := "setMargin", desc := "(I)I" } : Jvm.MethodName)) ∈ TW := TWm 803 (by decide +kernel) (by decide +kernel)
theorem mw_804 : (Jvm.Cond.instanceMethod ({ cls := "CrossedSheet", name := "setMargin", desc := "(I)I" } : Jvm.MethodName)) ∈ TW := TWm 804 (by decide +kernel) (by decide +kernel)
theorem mw_805 : (Jvm.Cond.selects "CrossedSheet" ({ cls := "CrossedSheet", name := "setMargin", desc := "(I)I" } : Jvm.MethodName) ({ cls := "CrossedSheet", name := "setMargin", desc := "(I)I" } : Jvm.MethodName)) ∈ TW := TWm 805 (by decide +kernel) (by decide +kernel)
theorem mw_806 : (Jvm.Cond.code ({ cls := "CrossedSheet", name := "setMargin", desc := "(I)I" } : Jvm.MethodName) prog_1_method_17_code (3 : Nat) (Option.some Jvm.ClassFile.FieldType.int)) ∈ TW := TWm 806 (by decide +kernel) (by decide +kernel)
theorem mw_810 : (Jvm.Cond.methodLink "CrossedSheetLaw" (63 : Nat) ({ cls := "CrossedSheet", name := "setGap", desc := "(I)I" } : Jvm.MethodName)) ∈ TW := TWm 810 (by decide +kernel) (by decide +kernel)
theorem mw_811 : (Jvm.Cond.instanceMethod ({ cls := "CrossedSheet", name := "setGap", desc := "(I)I" } : Jvm.MethodName)) ∈ TW := TWm 811 (by decide +kernel) (by decide +kernel)
theorem mw_812 : (Jvm.Cond.selects "CrossedSheet" ({ cls := "CrossedSheet", name := "setGap", desc := "(I)I" } : Jvm.MethodName) ({ cls := "CrossedSheet", name := "setGap", desc := "(I)I" } : Jvm.MethodName)) ∈ TW := TWm 812 (by decide +kernel) (by decide +kernel)
theorem mw_813 : (Jvm.Cond.code ({ cls := "CrossedSheet", name := "setGap", desc := "(I)I" } : Jvm.MethodName) prog_1_method_18_code (3 : Nat) (Option.some Jvm.ClassFile.FieldType.int)) ∈ TW := TWm 813 (by decide +kernel) (by decide +kernel)
theorem mw_817 : (Jvm.Cond.methodLink "CrossedSheetLaw" (66 : Nat) ({ cls := "CrossedSheet", name := "undo", desc := "()I" } : Jvm.MethodName)) ∈ TW := TWm 817 (by decide +kernel) (by decide +kernel)
theorem mw_818 : (Jvm.Cond.instanceMethod ({ cls := "CrossedSheet", name := "undo", desc := "()I" } : Jvm.MethodName)) ∈ TW := TWm 818 (by decide +kernel) (by decide +kernel)
theorem mw_819 : (Jvm.Cond.selects "CrossedSheet" ({ cls := "CrossedSheet", name := "undo", desc := "()I" } : Jvm.MethodName) ({ cls := "CrossedSheet", name := "undo", desc := "()I" } : Jvm.MethodName)) ∈ TW := TWm 819 (by decide +kernel) (by decide +kernel)
theorem mw_820 : (Jvm.Cond.code ({ cls := "CrossedSheet", name := "undo", desc := "()I" } : Jvm.MethodName) prog_1_method_20_code (1 : Nat) (Option.some Jvm.ClassFile.FieldType.int)) ∈ TW := TWm 820 (by decide +kernel) (by decide +kernel)
theorem mw_838 : (Jvm.Cond.methodLink "CrossedSheetLaw" (69 : Nat) ({ cls := "CrossedSheet", name := "find", desc := "(IIJ)I" } : Jvm.MethodName)) ∈ TW := TWm 838 (by decide +kernel) (by decide +kernel)
theorem mw_839 : (Jvm.Cond.instanceMethod ({ cls := "CrossedSheet", name := "find", desc := "(IIJ)I" } : Jvm.MethodName)) ∈ TW := TWm 839 (by decide +kernel) (by decide +kernel)
theorem mw_840 : (Jvm.Cond.selects "CrossedSheet" ({ cls := "CrossedSheet", name := "find", desc := "(IIJ)I" } : Jvm.MethodName) ({ cls := "CrossedSheet", name := "find", desc := "(IIJ)I" } : Jvm.MethodName)) ∈ TW := TWm 840 (by decide +kernel) (by decide +kernel)
theorem mw_841 : (Jvm.Cond.code ({ cls := "CrossedSheet", name := "find", desc := "(IIJ)I" } : Jvm.MethodName) prog_1_method_21_code (6 : Nat) (Option.some Jvm.ClassFile.FieldType.int)) ∈ TW := TWm 841 (by decide +kernel) (by decide +kernel)
theorem mw_855 : (Jvm.Cond.methodLink "CrossedSheetLaw" (73 : Nat) ({ cls := "CrossedSheet", name := "count", desc := "(II)I" } : Jvm.MethodName)) ∈ TW := TWm 855 (by decide +kernel) (by decide +kernel)
theorem mw_856 : (Jvm.Cond.instanceMethod ({ cls := "CrossedSheet", name := "count", desc := "(II)I" } : Jvm.MethodName)) ∈ TW := TWm 856 (by decide +kernel) (by decide +kernel)
theorem mw_857 : (Jvm.Cond.selects "CrossedSheet" ({ cls := "CrossedSheet", name := "count", desc := "(II)I" } : Jvm.MethodName) ({ cls := "CrossedSheet", name := "count", desc := "(II)I" } : Jvm.MethodName)) ∈ TW := TWm 857 (by decide +kernel) (by decide +kernel)
theorem mw_858 : (Jvm.Cond.code ({ cls := "CrossedSheet", name := "count", desc := "(II)I" } : Jvm.MethodName) prog_1_method_23_code (3 : Nat) (Option.some Jvm.ClassFile.FieldType.int)) ∈ TW := TWm 858 (by decide +kernel) (by decide +kernel)
theorem mw_866 : (Jvm.Cond.methodLink "CrossedSheetLaw" (76 : Nat) ({ cls := "CrossedSheet", name := "bestPen", desc := "(I)I" } : Jvm.MethodName)) ∈ TW := TWm 866 (by decide +kernel) (by decide +kernel)
theorem mw_867 : (Jvm.Cond.instanceMethod ({ cls := "CrossedSheet", name := "bestPen", desc := "(I)I" } : Jvm.MethodName)) ∈ TW := TWm 867 (by decide +kernel) (by decide +kernel)
theorem mw_868 : (Jvm.Cond.selects "CrossedSheet" ({ cls := "CrossedSheet", name := "bestPen", desc := "(I)I" } : Jvm.MethodName) ({ cls := "CrossedSheet", name := "bestPen", desc := "(I)I" } : Jvm.MethodName)) ∈ TW := TWm 868 (by decide +kernel) (by decide +kernel)
theorem mw_869 : (Jvm.Cond.code ({ cls := "CrossedSheet", name := "bestPen", desc := "(I)I" } : Jvm.MethodName) prog_1_method_24_code (7 : Nat) (Option.some Jvm.ClassFile.FieldType.int)) ∈ TW := TWm 869 (by decide +kernel) (by decide +kernel)
theorem mw_877 : (Jvm.Cond.methodLink "CrossedSheetLaw" (79 : Nat) ({ cls := "CrossedSheet", name := "bestDecision", desc := "(I)I" } : Jvm.MethodName)) ∈ TW := TWm 877 (by decide +kernel) (by decide +kernel)
theorem mw_878 : (Jvm.Cond.instanceMethod ({ cls := "CrossedSheet", name := "bestDecision", desc := "(I)I" } : Jvm.MethodName)) ∈ TW := TWm 878 (by decide +kernel) (by decide +kernel)
theorem mw_879 : (Jvm.Cond.selects "CrossedSheet" ({ cls := "CrossedSheet", name := "bestDecision", desc := "(I)I" } : Jvm.MethodName) ({ cls := "CrossedSheet", name := "bestDecision", desc := "(I)I" } : Jvm.MethodName)) ∈ TW := TWm 879 (by decide +kernel) (by decide +kernel)
theorem mw_880 : (Jvm.Cond.code ({ cls := "CrossedSheet", name := "bestDecision", desc := "(I)I" } : Jvm.MethodName) prog_1_method_26_code (8 : Nat) (Option.some Jvm.ClassFile.FieldType.int)) ∈ TW := TWm 880 (by decide +kernel) (by decide +kernel)
theorem mw_890 : (Jvm.Cond.methodLink "CrossedSheetLaw" (82 : Nat) ({ cls := "CrossedSheet", name := "wordsWith", desc := "(II)I" } : Jvm.MethodName)) ∈ TW := TWm 890 (by decide +kernel) (by decide +kernel)
theorem mw_891 : (Jvm.Cond.instanceMethod ({ cls := "CrossedSheet", name := "wordsWith", desc := "(II)I" } : Jvm.MethodName)) ∈ TW := TWm 891 (by decide +kernel) (by decide +kernel)
theorem mw_892 : (Jvm.Cond.selects "CrossedSheet" ({ cls := "CrossedSheet", name := "wordsWith", desc := "(II)I" } : Jvm.MethodName) ({ cls := "CrossedSheet", name := "wordsWith", desc := "(II)I" } : Jvm.MethodName)) ∈ TW := TWm 892 (by decide +kernel) (by decide +kernel)
theorem mw_893 : (Jvm.Cond.code ({ cls := "CrossedSheet", name := "wordsWith", desc := "(II)I" } : Jvm.MethodName) prog_1_method_27_code (3 : Nat) (Option.some Jvm.ClassFile.FieldType.int)) ∈ TW := TWm 893 (by decide +kernel) (by decide +kernel)
theorem mw_897 : (Jvm.Cond.methodLink "CrossedSheetLaw" (85 : Nat) ({ cls := "CrossedSheet", name := "runScript", desc := "(IJ)I" } : Jvm.MethodName)) ∈ TW := TWm 897 (by decide +kernel) (by decide +kernel)
theorem mw_898 : (Jvm.Cond.instanceMethod ({ cls := "CrossedSheet", name := "runScript", desc := "(IJ)I" } : Jvm.MethodName)) ∈ TW := TWm 898 (by decide +kernel) (by decide +kernel)
theorem mw_899 : (Jvm.Cond.selects "CrossedSheet" ({ cls := "CrossedSheet", name := "runScript", desc := "(IJ)I" } : Jvm.MethodName) ({ cls := "CrossedSheet", name := "runScript", desc := "(IJ)I" } : Jvm.MethodName)) ∈ TW := TWm 899 (by decide +kernel) (by decide +kernel)
theorem mw_900 : (Jvm.Cond.code ({ cls := "CrossedSheet", name := "runScript", desc := "(IJ)I" } : Jvm.MethodName) prog_1_method_28_code (5 : Nat) (Option.some Jvm.ClassFile.FieldType.int)) ∈ TW := TWm 900 (by decide +kernel) (by decide +kernel)
theorem mw_935 : (Jvm.Cond.methodLink "CrossedSheetLaw" (89 : Nat) ({ cls := "CrossedSheet", name := "simulate", desc := "(JI)I" } : Jvm.MethodName)) ∈ TW := TWm 935 (by decide +kernel) (by decide +kernel)
theorem mw_936 : (Jvm.Cond.instanceMethod ({ cls := "CrossedSheet", name := "simulate", desc := "(JI)I" } : Jvm.MethodName)) ∈ TW := TWm 936 (by decide +kernel) (by decide +kernel)
theorem mw_937 : (Jvm.Cond.selects "CrossedSheet" ({ cls := "CrossedSheet", name := "simulate", desc := "(JI)I" } : Jvm.MethodName) ({ cls := "CrossedSheet", name := "simulate", desc := "(JI)I" } : Jvm.MethodName)) ∈ TW := TWm 937 (by decide +kernel) (by decide +kernel)
theorem mw_938 : (Jvm.Cond.code ({ cls := "CrossedSheet", name := "simulate", desc := "(JI)I" } : Jvm.MethodName) prog_1_method_29_code (7 : Nat) (Option.some Jvm.ClassFile.FieldType.int)) ∈ TW := TWm 938 (by decide +kernel) (by decide +kernel)
theorem mw_952 : (Jvm.Cond.methodLink "CrossedSheetLaw" (93 : Nat) ({ cls := "CrossedSheet", name := "save", desc := "(I)I" } : Jvm.MethodName)) ∈ TW := TWm 952 (by decide +kernel) (by decide +kernel)
theorem mw_953 : (Jvm.Cond.instanceMethod ({ cls := "CrossedSheet", name := "save", desc := "(I)I" } : Jvm.MethodName)) ∈ TW := TWm 953 (by decide +kernel) (by decide +kernel)
theorem mw_954 : (Jvm.Cond.selects "CrossedSheet" ({ cls := "CrossedSheet", name := "save", desc := "(I)I" } : Jvm.MethodName) ({ cls := "CrossedSheet", name := "save", desc := "(I)I" } : Jvm.MethodName)) ∈ TW := TWm 954 (by decide +kernel) (by decide +kernel)
theorem mw_955 : (Jvm.Cond.code ({ cls := "CrossedSheet", name := "save", desc := "(I)I" } : Jvm.MethodName) prog_1_method_30_code (2 : Nat) (Option.some Jvm.ClassFile.FieldType.int)) ∈ TW := TWm 955 (by decide +kernel) (by decide +kernel)
theorem mw_964 : (Jvm.Cond.methodLink "CrossedSheetLaw" (96 : Nat) ({ cls := "CrossedSheet", name := "restore", desc := "(I)I" } : Jvm.MethodName)) ∈ TW := TWm 964 (by decide +kernel) (by decide +kernel)
theorem mw_965 : (Jvm.Cond.instanceMethod ({ cls := "CrossedSheet", name := "restore", desc := "(I)I" } : Jvm.MethodName)) ∈ TW := TWm 965 (by decide +kernel) (by decide +kernel)
theorem mw_966 : (Jvm.Cond.selects "CrossedSheet" ({ cls := "CrossedSheet", name := "restore", desc := "(I)I" } : Jvm.MethodName) ({ cls := "CrossedSheet", name := "restore", desc := "(I)I" } : Jvm.MethodName)) ∈ TW := TWm 966 (by decide +kernel) (by decide +kernel)
theorem mw_967 : (Jvm.Cond.code ({ cls := "CrossedSheet", name := "restore", desc := "(I)I" } : Jvm.MethodName) prog_1_method_31_code (2 : Nat) (Option.some Jvm.ClassFile.FieldType.int)) ∈ TW := TWm 967 (by decide +kernel) (by decide +kernel)
theorem yv_X6_about : yX6_about.cls = RX6 ∧ yX6_about.cls ≠ "java/lang/invoke/MethodHandle" ∧ yX6_about.cls ≠ "java/lang/invoke/VarHandle" ∧ (parseMethodDescriptor yX6_about.desc).map (fun d => d.parameters.length) = some 1 := by decide +kernel
theorem yv_X6_append : yX6_append.cls = RX6 ∧ yX6_append.cls ≠ "java/lang/invoke/MethodHandle" ∧ yX6_append.cls ≠ "java/lang/invoke/VarHandle" ∧ (parseMethodDescriptor yX6_append.desc).map (fun d => d.parameters.length) = some 1 := by decide +kernel
theorem yv_X6_bestDecision : yX6_bestDecision.cls = RX6 ∧ yX6_bestDecision.cls ≠ "java/lang/invoke/MethodHandle" ∧ yX6_bestDecision.cls ≠ "java/lang/invoke/VarHandle" ∧ (parseMethodDescriptor yX6_bestDecision.desc).map (fun d => d.parameters.length) = some 1 := by decide +kernel
theorem yv_X6_bestPen : yX6_bestPen.cls = RX6 ∧ yX6_bestPen.cls ≠ "java/lang/invoke/MethodHandle" ∧ yX6_bestPen.cls ≠ "java/lang/invoke/VarHandle" ∧ (parseMethodDescriptor yX6_bestPen.desc).map (fun d => d.parameters.length) = some 1 := by decide +kernel
theorem yv_X6_count : yX6_count.cls = RX6 ∧ yX6_count.cls ≠ "java/lang/invoke/MethodHandle" ∧ yX6_count.cls ≠ "java/lang/invoke/VarHandle" ∧ (parseMethodDescriptor yX6_count.desc).map (fun d => d.parameters.length) = some 2 := by decide +kernel
theorem yv_X6_decide : yX6_decide.cls = RX6 ∧ yX6_decide.cls ≠ "java/lang/invoke/MethodHandle" ∧ yX6_decide.cls ≠ "java/lang/invoke/VarHandle" ∧ (parseMethodDescriptor yX6_decide.desc).map (fun d => d.parameters.length) = some 4 := by decide +kernel
theorem yv_X6_erase : yX6_erase.cls = RX6 ∧ yX6_erase.cls ≠ "java/lang/invoke/MethodHandle" ∧ yX6_erase.cls ≠ "java/lang/invoke/VarHandle" ∧ (parseMethodDescriptor yX6_erase.desc).map (fun d => d.parameters.length) = some 3 := by decide +kernel
theorem yv_X6_find : yX6_find.cls = RX6 ∧ yX6_find.cls ≠ "java/lang/invoke/MethodHandle" ∧ yX6_find.cls ≠ "java/lang/invoke/VarHandle" ∧ (parseMethodDescriptor yX6_find.desc).map (fun d => d.parameters.length) = some 3 := by decide +kernel
theorem yv_X6_letter : yX6_letter.cls = RX6 ∧ yX6_letter.cls ≠ "java/lang/invoke/MethodHandle" ∧ yX6_letter.cls ≠ "java/lang/invoke/VarHandle" ∧ (parseMethodDescriptor yX6_letter.desc).map (fun d => d.parameters.length) = some 2 := by decide +kernel
theorem yv_X6_load : yX6_load.cls = RX6 ∧ yX6_load.cls ≠ "java/lang/invoke/MethodHandle" ∧ yX6_load.cls ≠ "java/lang/invoke/VarHandle" ∧ (parseMethodDescriptor yX6_load.desc).map (fun d => d.parameters.length) = some 0 := by decide +kernel
theorem yv_X6_mark : yX6_mark.cls = RX6 ∧ yX6_mark.cls ≠ "java/lang/invoke/MethodHandle" ∧ yX6_mark.cls ≠ "java/lang/invoke/VarHandle" ∧ (parseMethodDescriptor yX6_mark.desc).map (fun d => d.parameters.length) = some 4 := by decide +kernel
theorem yv_X6_marks : yX6_marks.cls = RX6 ∧ yX6_marks.cls ≠ "java/lang/invoke/MethodHandle" ∧ yX6_marks.cls ≠ "java/lang/invoke/VarHandle" ∧ (parseMethodDescriptor yX6_marks.desc).map (fun d => d.parameters.length) = some 2 := by decide +kernel
theorem yv_X6_restore : yX6_restore.cls = RX6 ∧ yX6_restore.cls ≠ "java/lang/invoke/MethodHandle" ∧ yX6_restore.cls ≠ "java/lang/invoke/VarHandle" ∧ (parseMethodDescriptor yX6_restore.desc).map (fun d => d.parameters.length) = some 1 := by decide +kernel
theorem yv_X6_runScript : yX6_runScript.cls = RX6 ∧ yX6_runScript.cls ≠ "java/lang/invoke/MethodHandle" ∧ yX6_runScript.cls ≠ "java/lang/invoke/VarHandle" ∧ (parseMethodDescriptor yX6_runScript.desc).map (fun d => d.parameters.length) = some 2 := by decide +kernel
theorem yv_X6_save : yX6_save.cls = RX6 ∧ yX6_save.cls ≠ "java/lang/invoke/MethodHandle" ∧ yX6_save.cls ≠ "java/lang/invoke/VarHandle" ∧ (parseMethodDescriptor yX6_save.desc).map (fun d => d.parameters.length) = some 1 := by decide +kernel
theorem yv_X6_setGap : yX6_setGap.cls = RX6 ∧ yX6_setGap.cls ≠ "java/lang/invoke/MethodHandle" ∧ yX6_setGap.cls ≠ "java/lang/invoke/VarHandle" ∧ (parseMethodDescriptor yX6_setGap.desc).map (fun d => d.parameters.length) = some 1 := by decide +kernel
theorem yv_X6_setLetter : yX6_setLetter.cls = RX6 ∧ yX6_setLetter.cls ≠ "java/lang/invoke/MethodHandle" ∧ yX6_setLetter.cls ≠ "java/lang/invoke/VarHandle" ∧ (parseMethodDescriptor yX6_setLetter.desc).map (fun d => d.parameters.length) = some 4 := by decide +kernel
theorem yv_X6_setMargin : yX6_setMargin.cls = RX6 ∧ yX6_setMargin.cls ≠ "java/lang/invoke/MethodHandle" ∧ yX6_setMargin.cls ≠ "java/lang/invoke/VarHandle" ∧ (parseMethodDescriptor yX6_setMargin.desc).map (fun d => d.parameters.length) = some 1 := by decide +kernel
theorem yv_X6_sign : yX6_sign.cls = RX6 ∧ yX6_sign.cls ≠ "java/lang/invoke/MethodHandle" ∧ yX6_sign.cls ≠ "java/lang/invoke/VarHandle" ∧ (parseMethodDescriptor yX6_sign.desc).map (fun d => d.parameters.length) = some 3 := by decide +kernel
theorem yv_X6_simulate : yX6_simulate.cls = RX6 ∧ yX6_simulate.cls ≠ "java/lang/invoke/MethodHandle" ∧ yX6_simulate.cls ≠ "java/lang/invoke/VarHandle" ∧ (parseMethodDescriptor yX6_simulate.desc).map (fun d => d.parameters.length) = some 2 := by decide +kernel
theorem yv_X6_undo : yX6_undo.cls = RX6 ∧ yX6_undo.cls ≠ "java/lang/invoke/MethodHandle" ∧ yX6_undo.cls ≠ "java/lang/invoke/VarHandle" ∧ (parseMethodDescriptor yX6_undo.desc).map (fun d => d.parameters.length) = some 0 := by decide +kernel
theorem yv_X6_wordAt : yX6_wordAt.cls = RX6 ∧ yX6_wordAt.cls ≠ "java/lang/invoke/MethodHandle" ∧ yX6_wordAt.cls ≠ "java/lang/invoke/VarHandle" ∧ (parseMethodDescriptor yX6_wordAt.desc).map (fun d => d.parameters.length) = some 3 := by decide +kernel
theorem yv_X6_wordLength : yX6_wordLength.cls = RX6 ∧ yX6_wordLength.cls ≠ "java/lang/invoke/MethodHandle" ∧ yX6_wordLength.cls ≠ "java/lang/invoke/VarHandle" ∧ (parseMethodDescriptor yX6_wordLength.desc).map (fun d => d.parameters.length) = some 2 := by decide +kernel
theorem yv_X6_wordsWith : yX6_wordsWith.cls = RX6 ∧ yX6_wordsWith.cls ≠ "java/lang/invoke/MethodHandle" ∧ yX6_wordsWith.cls ≠ "java/lang/invoke/VarHandle" ∧ (parseMethodDescriptor yX6_wordsWith.desc).map (fun d => d.parameters.length) = some 2 := by decide +kernel
theorem yv_X6_write : yX6_write.cls = RX6 ∧ yX6_write.cls ≠ "java/lang/invoke/MethodHandle" ∧ yX6_write.cls ≠ "java/lang/invoke/VarHandle" ∧ (parseMethodDescriptor yX6_write.desc).map (fun d => d.parameters.length) = some 5 := by decide +kernel
theorem cw_L_7 : GoodIn TW (wsV RL 7 RX6 yX6_append (.code yX6_append cX6_append 2 (some .int) :: TW)) := zGV mw_521 mw_522 mw_523 mw_47 mw_524
theorem cw_L_17 : GoodIn TW (wsV RL 17 RX6 yX6_load (.code yX6_load cX6_load 1 (some .int) :: TW)) := zGV mw_616 mw_617 mw_618 mw_47 mw_619
theorem cw_L_21 : GoodIn TW (wsV RL 21 RX6 yX6_about (.code yX6_about cX6_about 2 (some .int) :: TW)) := zGV mw_637 mw_638 mw_639 mw_47 mw_640
theorem cw_L_24 : GoodIn TW (wsV RL 24 RX6 yX6_letter (.code yX6_letter cX6_letter 3 (some .int) :: TW)) := zGV mw_653 mw_654 mw_655 mw_47 mw_656
theorem cw_L_30 : GoodIn TW (wsV RL 30 RX6 yX6_marks (.code yX6_marks cX6_marks 3 (some .int) :: TW)) := zGV mw_687 mw_688 mw_689 mw_47 mw_690
theorem cw_L_33 : GoodIn TW (wsV RL 33 RX6 yX6_mark (.code yX6_mark cX6_mark 6 (some .int) :: TW)) := zGV mw_701 mw_702 mw_703 mw_47 mw_704
theorem cw_L_37 : GoodIn TW (wsV RL 37 RX6 yX6_wordLength (.code yX6_wordLength cX6_wordLength 3 (some .int) :: TW)) := zGV mw_724 mw_725 mw_726 mw_47 mw_727
theorem cw_L_40 : GoodIn TW (wsV RL 40 RX6 yX6_sign (.code yX6_sign cX6_sign 4 (some .int) :: TW)) := zGV mw_738 mw_739 mw_740 mw_47 mw_741
theorem cw_L_44 : GoodIn TW (wsV RL 44 RX6 yX6_wordAt (.code yX6_wordAt cX6_wordAt 4 (some .int) :: TW)) := zGV mw_747 mw_748 mw_749 mw_47 mw_750
theorem cw_L_47 : GoodIn TW (wsV RL 47 RX6 yX6_write (.code yX6_write cX6_write 7 (some .int) :: TW)) := zGV mw_754 mw_755 mw_756 mw_47 mw_757
theorem cw_L_51 : GoodIn TW (wsV RL 51 RX6 yX6_erase (.code yX6_erase cX6_erase 5 (some .int) :: TW)) := zGV mw_764 mw_765 mw_766 mw_47 mw_767
theorem cw_L_54 : GoodIn TW (wsV RL 54 RX6 yX6_decide (.code yX6_decide cX6_decide 5 (some .int) :: TW)) := zGV mw_775 mw_776 mw_777 mw_47 mw_778
theorem cw_L_57 : GoodIn TW (wsV RL 57 RX6 yX6_setLetter (.code yX6_setLetter cX6_setLetter 5 (some .int) :: TW)) := zGV mw_795 mw_796 mw_797 mw_47 mw_798
theorem cw_L_60 : GoodIn TW (wsV RL 60 RX6 yX6_setMargin (.code yX6_setMargin cX6_setMargin 3 (some .int) :: TW)) := zGV mw_803 mw_804 mw_805 mw_47 mw_806
theorem cw_L_63 : GoodIn TW (wsV RL 63 RX6 yX6_setGap (.code yX6_setGap cX6_setGap 3 (some .int) :: TW)) := zGV mw_810 mw_811 mw_812 mw_47 mw_813
theorem cw_L_66 : GoodIn TW (wsV RL 66 RX6 yX6_undo (.code yX6_undo cX6_undo 1 (some .int) :: TW)) := zGV mw_817 mw_818 mw_819 mw_47 mw_820
theorem cw_L_69 : GoodIn TW (wsV RL 69 RX6 yX6_find (.code yX6_find cX6_find 6 (some .int) :: TW)) := zGV mw_838 mw_839 mw_840 mw_47 mw_841
theorem cw_L_73 : GoodIn TW (wsV RL 73 RX6 yX6_count (.code yX6_count cX6_count 3 (some .int) :: TW)) := zGV mw_855 mw_856 mw_857 mw_47 mw_858
theorem cw_L_76 : GoodIn TW (wsV RL 76 RX6 yX6_bestPen (.code yX6_bestPen cX6_bestPen 7 (some .int) :: TW)) := zGV mw_866 mw_867 mw_868 mw_47 mw_869
theorem cw_L_79 : GoodIn TW (wsV RL 79 RX6 yX6_bestDecision (.code yX6_bestDecision cX6_bestDecision 8 (some .int) :: TW)) := zGV mw_877 mw_878 mw_879 mw_47 mw_880
theorem cw_L_82 : GoodIn TW (wsV RL 82 RX6 yX6_wordsWith (.code yX6_wordsWith cX6_wordsWith 3 (some .int) :: TW)) := zGV mw_890 mw_891 mw_892 mw_47 mw_893
theorem cw_L_85 : GoodIn TW (wsV RL 85 RX6 yX6_runScript (.code yX6_runScript cX6_runScript 5 (some .int) :: TW)) := zGV mw_897 mw_898 mw_899 mw_47 mw_900
theorem cw_L_89 : GoodIn TW (wsV RL 89 RX6 yX6_simulate (.code yX6_simulate cX6_simulate 7 (some .int) :: TW)) := zGV mw_935 mw_936 mw_937 mw_47 mw_938
theorem cw_L_93 : GoodIn TW (wsV RL 93 RX6 yX6_save (.code yX6_save cX6_save 2 (some .int) :: TW)) := zGV mw_952 mw_953 mw_954 mw_47 mw_955
theorem cw_L_96 : GoodIn TW (wsV RL 96 RX6 yX6_restore (.code yX6_restore cX6_restore 2 (some .int) :: TW)) := zGV mw_964 mw_965 mw_966 mw_47 mw_967
theorem dL_append_0 : decode cL_append 0 = .ok (.aload_n 2, 1) := by decide +kernel
theorem dL_append_1 : decode cL_append 1 = .ok (.iconst 0, 1) := by decide +kernel
theorem dL_append_2 : decode cL_append 2 = .ok (.aload_n 0, 1) := by decide +kernel
theorem dL_append_3 : decode cL_append 3 = .ok (.iload_n 1, 1) := by decide +kernel
theorem dL_append_4 : decode cL_append 4 = .ok (.invokevirtual 7, 3) := by decide +kernel
theorem dL_append_7 : decode cL_append 7 = .ok (.i2l, 1) := by decide +kernel
theorem dL_append_8 : decode cL_append 8 = .ok (.lastore, 1) := by decide +kernel
theorem dL_append_9 : decode cL_append 9 = .ok (.goto 9, 3) := by decide +kernel
theorem dL_append_12 : decode cL_append 12 = .ok (.astore_n 3, 1) := by decide +kernel
theorem dL_append_13 : decode cL_append 13 = .ok (.iconst 1, 1) := by decide +kernel
theorem dL_append_14 : decode cL_append 14 = .ok (.ireturn, 1) := by decide +kernel
theorem dL_append_15 : decode cL_append 15 = .ok (.astore_n 3, 1) := by decide +kernel
theorem dL_append_16 : decode cL_append 16 = .ok (.iconst 2, 1) := by decide +kernel
theorem dL_append_17 : decode cL_append 17 = .ok (.ireturn, 1) := by decide +kernel
theorem dL_append_18 : decode cL_append 18 = .ok (.iconst 0, 1) := by decide +kernel
theorem dL_append_19 : decode cL_append 19 = .ok (.ireturn, 1) := by decide +kernel
def FL_append (T : zT) (p0 : Nat) (p1 : Int32) (p2 : Nat) (h : zH) : Option (Int32 × zH) := zbh (FX6_append T p0 p1 h) (fun x2 h3 => (zls T h3 p2 0 x2.toInt64).bind fun h4 => some (0, h4)) (fun E5 h6 => if E5 = "java/lang/IllegalArgumentException" then (some (1, h6)) else (if E5 = "java/lang/IllegalStateException" then (some (2, h6)) else (none)))
set_option maxHeartbeats 4000000 in
set_option maxRecDepth 100000 in
theorem BL_append {X : zX} (CW : zCW X cL_append 4 RL "append" (some .int) 8 133 [(0, 9, 12, 13), (0, 9, 15, 15)]) {hi : Nat} {h : zH} {p0 : Nat} {p1 : Int32} {p2 : Nat} {r9 : (Int32 × zH)} (hf : FL_append (xT X) p0 p1 p2 h = some r9) : zW X 4 (zZ X false (some (.int r9.1), hi, r9.2)) 2 12 false hi h 0 [(0, .ref p0), (1, .int p1), (2, .ref p2)] [] := by
  have C := CW.1
  unfold FL_append at hf
  refine z_aload_n C dL_append_0 2 rfl rfl ?_
  refine z_iconst C (v := 0) dL_append_1 (by decide) ?_
  refine z_aload_n C dL_append_2 0 rfl rfl ?_
  refine z_iload_n C dL_append_3 1 rfl rfl ?_
  refine z_callVH (kc' := 0) (ks' := 0) CW hf (fun _ _ e => MX6_append (xl X) CW.2.2.2.2 (xD X) (xT X) (xlo X) hi e) (fun _ e => OX6_append e) rfl cw_L_7 yv_X6_append dL_append_4 rfl (by decide) ⟨rfl, rfl⟩ (Nat.le_of_ble_eq_true rfl) (st := [.int 0, .ref p2]) rfl ?_ ?_
  · intro x2 h3 hf
    refine z_i2l C dL_append_7 ?_
    refine z_lastore C dL_append_8 hf (fun h4 hf => ?_)
    refine z_goto (tgt := 18) C dL_append_9 (by decide) ?_
    refine z_iconst C (v := 0) dL_append_18 (by decide) ?_
    exact z_ireturn C dL_append_19 (by cases hf; rfl)
  · intro E5 h6 hf
    refine z_ite hf (fun c hf => ?_) (fun c hf => ?_)
    · subst c
      refine ⟨[], ⟨0, 9, 12, 13⟩, [⟨0, 9, 15, 15⟩], "java/lang/IllegalArgumentException", rfl, (fun _ hz => nomatch hz), by decide, by decide, mw_519, by decide, fun q9 => ?_⟩
      refine z_astore_n C dL_append_12 rfl (by decide) (lv' := [(3, .ref q9), (0, .ref p0), (1, .int p1), (2, .ref p2)]) rfl ?_
      refine z_iconst C (v := 1) dL_append_13 (by decide) ?_
      exact z_ireturn C dL_append_14 (by cases hf; rfl)
    · refine z_ite hf (fun c hf => ?_) (fun c hf => ?_)
      · subst c
        refine ⟨[⟨0, 9, 12, 13⟩], ⟨0, 9, 15, 15⟩, [], "java/lang/IllegalStateException", rfl, (by intro z hz; rcases List.mem_cons.mp hz with rfl | hz; exact Or.inr ⟨by decide, "java/lang/IllegalArgumentException", mw_519, by decide⟩; exact absurd hz List.not_mem_nil), by decide, by decide, mw_520, by decide, fun q9 => ?_⟩
        refine z_astore_n C dL_append_15 rfl (by decide) (lv' := [(3, .ref q9), (0, .ref p0), (1, .int p1), (2, .ref p2)]) rfl ?_
        refine z_iconst C (v := 2) dL_append_16 (by decide) ?_
        exact z_ireturn C dL_append_17 (by cases hf; rfl)
      · exact nomatch hf
theorem ML_append (l : Launch) (hl9 : l.stackTraces = false) (D : va_G) (T : zT) (lo : Nat) (hi : Nat) {h : zH} {p0 : Nat} {p1 : Int32} {p2 : Nat} {v9 : Int32} {h9 : zH} (hf : FL_append T p0 p1 p2 h = some (v9, h9)) : zMW l yL_append (.codeWith yL_append cL_append 4 (some .int) [(0, 9, 12, 13), (0, 9, 15, 15)] :: TW) ({ frames := 8, cells := 2, slots := 12, locals := 133 } : Room) D T lo [.ref p0, .int p1, .ref p2] hi h (some (.int v9), hi, h9) :=
  z_enterW hl9 (own := RL) (nm := "append") (lv := [(0, .ref p0), (1, .int p1), (2, .ref p2)]) (by decide +kernel) rfl rfl (Nat.le_of_ble_eq_true rfl) rfl (fun _ _ _ _ _ _ _ _ C => BL_append C hf)
theorem dL_load_0 : decode cL_load 0 = .ok (.aload_n 1, 1) := by decide +kernel
theorem dL_load_1 : decode cL_load 1 = .ok (.iconst 0, 1) := by decide +kernel
theorem dL_load_2 : decode cL_load 2 = .ok (.aload_n 0, 1) := by decide +kernel
theorem dL_load_3 : decode cL_load 3 = .ok (.invokevirtual 17, 3) := by decide +kernel
theorem dL_load_6 : decode cL_load 6 = .ok (.i2l, 1) := by decide +kernel
theorem dL_load_7 : decode cL_load 7 = .ok (.lastore, 1) := by decide +kernel
theorem dL_load_8 : decode cL_load 8 = .ok (.goto 6, 3) := by decide +kernel
theorem dL_load_11 : decode cL_load 11 = .ok (.astore_n 2, 1) := by decide +kernel
theorem dL_load_12 : decode cL_load 12 = .ok (.iconst 1, 1) := by decide +kernel
theorem dL_load_13 : decode cL_load 13 = .ok (.ireturn, 1) := by decide +kernel
theorem dL_load_14 : decode cL_load 14 = .ok (.iconst 0, 1) := by decide +kernel
theorem dL_load_15 : decode cL_load 15 = .ok (.ireturn, 1) := by decide +kernel
def FL_load (T : zT) (p0 : Nat) (p1 : Nat) (h : zH) : Option (Int32 × zH) := zbh (FX6_load T p0 h) (fun x2 h3 => (zls T h3 p1 0 x2.toInt64).bind fun h4 => some (0, h4)) (fun E5 h6 => if E5 = "java/lang/IllegalStateException" then (some (1, h6)) else (none))
set_option maxHeartbeats 4000000 in
set_option maxRecDepth 100000 in
theorem BL_load {X : zX} (CW : zCW X cL_load 3 RL "load" (some .int) 7 160 [(0, 8, 11, 15)]) {hi : Nat} {h : zH} {p0 : Nat} {p1 : Nat} {r9 : (Int32 × zH)} (hf : FL_load (xT X) p0 p1 h = some r9) : zW X 3 (zZ X false (some (.int r9.1), hi, r9.2)) 1 6 false hi h 0 [(0, .ref p0), (1, .ref p1)] [] := by
  have C := CW.1
  unfold FL_load at hf
  refine z_aload_n C dL_load_0 1 rfl rfl ?_
  refine z_iconst C (v := 0) dL_load_1 (by decide) ?_
  refine z_aload_n C dL_load_2 0 rfl rfl ?_
  refine z_callVH (kc' := 0) (ks' := 0) CW hf (fun _ _ e => MX6_load (xl X) CW.2.2.2.2 (xD X) (xT X) (xlo X) hi e) (fun _ e => OX6_load e) rfl cw_L_17 yv_X6_load dL_load_3 rfl (by decide) ⟨rfl, rfl⟩ (Nat.le_of_ble_eq_true rfl) (st := [.int 0, .ref p1]) rfl ?_ ?_
  · intro x2 h3 hf
    refine z_i2l C dL_load_6 ?_
    refine z_lastore C dL_load_7 hf (fun h4 hf => ?_)
    refine z_goto (tgt := 14) C dL_load_8 (by decide) ?_
    refine z_iconst C (v := 0) dL_load_14 (by decide) ?_
    exact z_ireturn C dL_load_15 (by cases hf; rfl)
  · intro E5 h6 hf
    refine z_ite hf (fun c hf => ?_) (fun c hf => ?_)
    · subst c
      refine ⟨[], ⟨0, 8, 11, 15⟩, [], "java/lang/IllegalStateException", rfl, (fun _ hz => nomatch hz), by decide, by decide, mw_520, by decide, fun q9 => ?_⟩
      refine z_astore_n C dL_load_11 rfl (by decide) (lv' := [(2, .ref q9), (0, .ref p0), (1, .ref p1)]) rfl ?_
      refine z_iconst C (v := 1) dL_load_12 (by decide) ?_
      exact z_ireturn C dL_load_13 (by cases hf; rfl)
    · exact nomatch hf
theorem ML_load (l : Launch) (hl9 : l.stackTraces = false) (D : va_G) (T : zT) (lo : Nat) (hi : Nat) {h : zH} {p0 : Nat} {p1 : Nat} {v9 : Int32} {h9 : zH} (hf : FL_load T p0 p1 h = some (v9, h9)) : zMW l yL_load (.codeWith yL_load cL_load 3 (some .int) [(0, 8, 11, 15)] :: TW) ({ frames := 7, cells := 1, slots := 6, locals := 160 } : Room) D T lo [.ref p0, .ref p1] hi h (some (.int v9), hi, h9) :=
  z_enterW hl9 (own := RL) (nm := "load") (lv := [(0, .ref p0), (1, .ref p1)]) (by decide +kernel) rfl rfl (Nat.le_of_ble_eq_true rfl) rfl (fun _ _ _ _ _ _ _ _ C => BL_load C hf)
theorem dL_about_0 : decode cL_about 0 = .ok (.aload_n 2, 1) := by decide +kernel
theorem dL_about_1 : decode cL_about 1 = .ok (.iconst 0, 1) := by decide +kernel
theorem dL_about_2 : decode cL_about 2 = .ok (.aload_n 0, 1) := by decide +kernel
theorem dL_about_3 : decode cL_about 3 = .ok (.iload_n 1, 1) := by decide +kernel
theorem dL_about_4 : decode cL_about 4 = .ok (.invokevirtual 21, 3) := by decide +kernel
theorem dL_about_7 : decode cL_about 7 = .ok (.i2l, 1) := by decide +kernel
theorem dL_about_8 : decode cL_about 8 = .ok (.lastore, 1) := by decide +kernel
theorem dL_about_9 : decode cL_about 9 = .ok (.goto 6, 3) := by decide +kernel
theorem dL_about_12 : decode cL_about 12 = .ok (.astore_n 3, 1) := by decide +kernel
theorem dL_about_13 : decode cL_about 13 = .ok (.iconst 1, 1) := by decide +kernel
theorem dL_about_14 : decode cL_about 14 = .ok (.ireturn, 1) := by decide +kernel
theorem dL_about_15 : decode cL_about 15 = .ok (.iconst 0, 1) := by decide +kernel
theorem dL_about_16 : decode cL_about 16 = .ok (.ireturn, 1) := by decide +kernel
def FL_about (T : zT) (p0 : Nat) (p1 : Int32) (p2 : Nat) (h : zH) : Option (Int32 × zH) := zbh (FX6_about T p0 p1 h) (fun x2 h3 => (zls T h3 p2 0 x2.toInt64).bind fun h4 => some (0, h4)) (fun E5 h6 => if E5 = "java/lang/IllegalArgumentException" then (some (1, h6)) else (none))
set_option maxHeartbeats 4000000 in
set_option maxRecDepth 100000 in
theorem BL_about {X : zX} (CW : zCW X cL_about 4 RL "about" (some .int) 8 169 [(0, 9, 12, 13)]) {hi : Nat} {h : zH} {p0 : Nat} {p1 : Int32} {p2 : Nat} {r9 : (Int32 × zH)} (hf : FL_about (xT X) p0 p1 p2 h = some r9) : zW X 4 (zZ X false (some (.int r9.1), hi, r9.2)) 1 6 false hi h 0 [(0, .ref p0), (1, .int p1), (2, .ref p2)] [] := by
  have C := CW.1
  unfold FL_about at hf
  refine z_aload_n C dL_about_0 2 rfl rfl ?_
  refine z_iconst C (v := 0) dL_about_1 (by decide) ?_
  refine z_aload_n C dL_about_2 0 rfl rfl ?_
  refine z_iload_n C dL_about_3 1 rfl rfl ?_
  refine z_callVH (kc' := 0) (ks' := 0) CW hf (fun _ _ e => MX6_about (xl X) CW.2.2.2.2 (xD X) (xT X) (xlo X) hi e) (fun _ e => OX6_about e) rfl cw_L_21 yv_X6_about dL_about_4 rfl (by decide) ⟨rfl, rfl⟩ (Nat.le_of_ble_eq_true rfl) (st := [.int 0, .ref p2]) rfl ?_ ?_
  · intro x2 h3 hf
    refine z_i2l C dL_about_7 ?_
    refine z_lastore C dL_about_8 hf (fun h4 hf => ?_)
    refine z_goto (tgt := 15) C dL_about_9 (by decide) ?_
    refine z_iconst C (v := 0) dL_about_15 (by decide) ?_
    exact z_ireturn C dL_about_16 (by cases hf; rfl)
  · intro E5 h6 hf
    refine z_ite hf (fun c hf => ?_) (fun c hf => ?_)
    · subst c
      refine ⟨[], ⟨0, 9, 12, 13⟩, [], "java/lang/IllegalArgumentException", rfl, (fun _ hz => nomatch hz), by decide, by decide, mw_519, by decide, fun q9 => ?_⟩
      refine z_astore_n C dL_about_12 rfl (by decide) (lv' := [(3, .ref q9), (0, .ref p0), (1, .int p1), (2, .ref p2)]) rfl ?_
      refine z_iconst C (v := 1) dL_about_13 (by decide) ?_
      exact z_ireturn C dL_about_14 (by cases hf; rfl)
    · exact nomatch hf
theorem ML_about (l : Launch) (hl9 : l.stackTraces = false) (D : va_G) (T : zT) (lo : Nat) (hi : Nat) {h : zH} {p0 : Nat} {p1 : Int32} {p2 : Nat} {v9 : Int32} {h9 : zH} (hf : FL_about T p0 p1 p2 h = some (v9, h9)) : zMW l yL_about (.codeWith yL_about cL_about 4 (some .int) [(0, 9, 12, 13)] :: TW) ({ frames := 8, cells := 1, slots := 6, locals := 169 } : Room) D T lo [.ref p0, .int p1, .ref p2] hi h (some (.int v9), hi, h9) :=
  z_enterW hl9 (own := RL) (nm := "about") (lv := [(0, .ref p0), (1, .int p1), (2, .ref p2)]) (by decide +kernel) rfl rfl (Nat.le_of_ble_eq_true rfl) rfl (fun _ _ _ _ _ _ _ _ C => BL_about C hf)
theorem dL_letter_0 : decode cL_letter 0 = .ok (.aload_n 3, 1) := by decide +kernel
theorem dL_letter_1 : decode cL_letter 1 = .ok (.iconst 0, 1) := by decide +kernel
theorem dL_letter_2 : decode cL_letter 2 = .ok (.aload_n 0, 1) := by decide +kernel
theorem dL_letter_3 : decode cL_letter 3 = .ok (.iload_n 1, 1) := by decide +kernel
theorem dL_letter_4 : decode cL_letter 4 = .ok (.iload_n 2, 1) := by decide +kernel
theorem dL_letter_5 : decode cL_letter 5 = .ok (.invokevirtual 24, 3) := by decide +kernel
theorem dL_letter_8 : decode cL_letter 8 = .ok (.i2l, 1) := by decide +kernel
theorem dL_letter_9 : decode cL_letter 9 = .ok (.lastore, 1) := by decide +kernel
theorem dL_letter_10 : decode cL_letter 10 = .ok (.goto 11, 3) := by decide +kernel
theorem dL_letter_13 : decode cL_letter 13 = .ok (.astore 4, 2) := by decide +kernel
theorem dL_letter_15 : decode cL_letter 15 = .ok (.iconst 1, 1) := by decide +kernel
theorem dL_letter_16 : decode cL_letter 16 = .ok (.ireturn, 1) := by decide +kernel
theorem dL_letter_17 : decode cL_letter 17 = .ok (.astore 4, 2) := by decide +kernel
theorem dL_letter_19 : decode cL_letter 19 = .ok (.iconst 2, 1) := by decide +kernel
theorem dL_letter_20 : decode cL_letter 20 = .ok (.ireturn, 1) := by decide +kernel
theorem dL_letter_21 : decode cL_letter 21 = .ok (.iconst 0, 1) := by decide +kernel
theorem dL_letter_22 : decode cL_letter 22 = .ok (.ireturn, 1) := by decide +kernel
def FL_letter (T : zT) (p0 : Nat) (p1 : Int32) (p2 : Int32) (p3 : Nat) (h : zH) : Option (Int32 × zH) := zbh (FX6_letter T p0 p1 p2 h) (fun x2 h3 => (zls T h3 p3 0 x2.toInt64).bind fun h4 => some (0, h4)) (fun E5 h6 => if E5 = "java/lang/IndexOutOfBoundsException" then (some (1, h6)) else (if E5 = "java/lang/IllegalArgumentException" then (some (2, h6)) else (none)))
set_option maxHeartbeats 4000000 in
set_option maxRecDepth 100000 in
theorem BL_letter {X : zX} (CW : zCW X cL_letter 5 RL "letter" (some .int) 8 170 [(0, 10, 13, 28), (0, 10, 17, 13)]) {hi : Nat} {h : zH} {p0 : Nat} {p1 : Int32} {p2 : Int32} {p3 : Nat} {r9 : (Int32 × zH)} (hf : FL_letter (xT X) p0 p1 p2 p3 h = some r9) : zW X 5 (zZ X false (some (.int r9.1), hi, r9.2)) 2 12 false hi h 0 [(0, .ref p0), (1, .int p1), (2, .int p2), (3, .ref p3)] [] := by
  have C := CW.1
  unfold FL_letter at hf
  refine z_aload_n C dL_letter_0 3 rfl rfl ?_
  refine z_iconst C (v := 0) dL_letter_1 (by decide) ?_
  refine z_aload_n C dL_letter_2 0 rfl rfl ?_
  refine z_iload_n C dL_letter_3 1 rfl rfl ?_
  refine z_iload_n C dL_letter_4 2 rfl rfl ?_
  refine z_callVH (kc' := 0) (ks' := 0) CW hf (fun _ _ e => MX6_letter (xl X) CW.2.2.2.2 (xD X) (xT X) (xlo X) hi e) (fun _ e => OX6_letter e) rfl cw_L_24 yv_X6_letter dL_letter_5 rfl (by decide) ⟨rfl, rfl⟩ (Nat.le_of_ble_eq_true rfl) (st := [.int 0, .ref p3]) rfl ?_ ?_
  · intro x2 h3 hf
    refine z_i2l C dL_letter_8 ?_
    refine z_lastore C dL_letter_9 hf (fun h4 hf => ?_)
    refine z_goto (tgt := 21) C dL_letter_10 (by decide) ?_
    refine z_iconst C (v := 0) dL_letter_21 (by decide) ?_
    exact z_ireturn C dL_letter_22 (by cases hf; rfl)
  · intro E5 h6 hf
    refine z_ite hf (fun c hf => ?_) (fun c hf => ?_)
    · subst c
      refine ⟨[], ⟨0, 10, 13, 28⟩, [⟨0, 10, 17, 13⟩], "java/lang/IndexOutOfBoundsException", rfl, (fun _ hz => nomatch hz), by decide, by decide, mw_652, by decide, fun q9 => ?_⟩
      refine z_astore C dL_letter_13 (by decide) (lv' := [(4, .ref q9), (0, .ref p0), (1, .int p1), (2, .int p2), (3, .ref p3)]) rfl ?_
      refine z_iconst C (v := 1) dL_letter_15 (by decide) ?_
      exact z_ireturn C dL_letter_16 (by cases hf; rfl)
    · refine z_ite hf (fun c hf => ?_) (fun c hf => ?_)
      · subst c
        refine ⟨[⟨0, 10, 13, 28⟩], ⟨0, 10, 17, 13⟩, [], "java/lang/IllegalArgumentException", rfl, (by intro z hz; rcases List.mem_cons.mp hz with rfl | hz; exact Or.inr ⟨by decide, "java/lang/IndexOutOfBoundsException", mw_652, by decide⟩; exact absurd hz List.not_mem_nil), by decide, by decide, mw_519, by decide, fun q9 => ?_⟩
        refine z_astore C dL_letter_17 (by decide) (lv' := [(4, .ref q9), (0, .ref p0), (1, .int p1), (2, .int p2), (3, .ref p3)]) rfl ?_
        refine z_iconst C (v := 2) dL_letter_19 (by decide) ?_
        exact z_ireturn C dL_letter_20 (by cases hf; rfl)
      · exact nomatch hf
theorem ML_letter (l : Launch) (hl9 : l.stackTraces = false) (D : va_G) (T : zT) (lo : Nat) (hi : Nat) {h : zH} {p0 : Nat} {p1 : Int32} {p2 : Int32} {p3 : Nat} {v9 : Int32} {h9 : zH} (hf : FL_letter T p0 p1 p2 p3 h = some (v9, h9)) : zMW l yL_letter (.codeWith yL_letter cL_letter 5 (some .int) [(0, 10, 13, 28), (0, 10, 17, 13)] :: TW) ({ frames := 8, cells := 2, slots := 12, locals := 170 } : Room) D T lo [.ref p0, .int p1, .int p2, .ref p3] hi h (some (.int v9), hi, h9) :=
  z_enterW hl9 (own := RL) (nm := "letter") (lv := [(0, .ref p0), (1, .int p1), (2, .int p2), (3, .ref p3)]) (by decide +kernel) rfl rfl (Nat.le_of_ble_eq_true rfl) rfl (fun _ _ _ _ _ _ _ _ C => BL_letter C hf)
theorem dL_marks_0 : decode cL_marks 0 = .ok (.aload_n 3, 1) := by decide +kernel
theorem dL_marks_1 : decode cL_marks 1 = .ok (.iconst 0, 1) := by decide +kernel
theorem dL_marks_2 : decode cL_marks 2 = .ok (.aload_n 0, 1) := by decide +kernel
theorem dL_marks_3 : decode cL_marks 3 = .ok (.iload_n 1, 1) := by decide +kernel
theorem dL_marks_4 : decode cL_marks 4 = .ok (.iload_n 2, 1) := by decide +kernel
theorem dL_marks_5 : decode cL_marks 5 = .ok (.invokevirtual 30, 3) := by decide +kernel
theorem dL_marks_8 : decode cL_marks 8 = .ok (.i2l, 1) := by decide +kernel
theorem dL_marks_9 : decode cL_marks 9 = .ok (.lastore, 1) := by decide +kernel
theorem dL_marks_10 : decode cL_marks 10 = .ok (.goto 7, 3) := by decide +kernel
theorem dL_marks_13 : decode cL_marks 13 = .ok (.astore 4, 2) := by decide +kernel
theorem dL_marks_15 : decode cL_marks 15 = .ok (.iconst 1, 1) := by decide +kernel
theorem dL_marks_16 : decode cL_marks 16 = .ok (.ireturn, 1) := by decide +kernel
theorem dL_marks_17 : decode cL_marks 17 = .ok (.iconst 0, 1) := by decide +kernel
theorem dL_marks_18 : decode cL_marks 18 = .ok (.ireturn, 1) := by decide +kernel
def FL_marks (T : zT) (p0 : Nat) (p1 : Int32) (p2 : Int32) (p3 : Nat) (h : zH) : Option (Int32 × zH) := zbh (FX6_marks T p0 p1 p2 h) (fun x2 h3 => (zls T h3 p3 0 x2.toInt64).bind fun h4 => some (0, h4)) (fun E5 h6 => if E5 = "java/lang/IndexOutOfBoundsException" then (some (1, h6)) else (none))
set_option maxHeartbeats 4000000 in
set_option maxRecDepth 100000 in
theorem BL_marks {X : zX} (CW : zCW X cL_marks 5 RL "marks" (some .int) 8 134 [(0, 10, 13, 28)]) {hi : Nat} {h : zH} {p0 : Nat} {p1 : Int32} {p2 : Int32} {p3 : Nat} {r9 : (Int32 × zH)} (hf : FL_marks (xT X) p0 p1 p2 p3 h = some r9) : zW X 5 (zZ X false (some (.int r9.1), hi, r9.2)) 1 6 false hi h 0 [(0, .ref p0), (1, .int p1), (2, .int p2), (3, .ref p3)] [] := by
  have C := CW.1
  unfold FL_marks at hf
  refine z_aload_n C dL_marks_0 3 rfl rfl ?_
  refine z_iconst C (v := 0) dL_marks_1 (by decide) ?_
  refine z_aload_n C dL_marks_2 0 rfl rfl ?_
  refine z_iload_n C dL_marks_3 1 rfl rfl ?_
  refine z_iload_n C dL_marks_4 2 rfl rfl ?_
  refine z_callVH (kc' := 0) (ks' := 0) CW hf (fun _ _ e => MX6_marks (xl X) CW.2.2.2.2 (xD X) (xT X) (xlo X) hi e) (fun _ e => OX6_marks e) rfl cw_L_30 yv_X6_marks dL_marks_5 rfl (by decide) ⟨rfl, rfl⟩ (Nat.le_of_ble_eq_true rfl) (st := [.int 0, .ref p3]) rfl ?_ ?_
  · intro x2 h3 hf
    refine z_i2l C dL_marks_8 ?_
    refine z_lastore C dL_marks_9 hf (fun h4 hf => ?_)
    refine z_goto (tgt := 17) C dL_marks_10 (by decide) ?_
    refine z_iconst C (v := 0) dL_marks_17 (by decide) ?_
    exact z_ireturn C dL_marks_18 (by cases hf; rfl)
  · intro E5 h6 hf
    refine z_ite hf (fun c hf => ?_) (fun c hf => ?_)
    · subst c
      refine ⟨[], ⟨0, 10, 13, 28⟩, [], "java/lang/IndexOutOfBoundsException", rfl, (fun _ hz => nomatch hz), by decide, by decide, mw_652, by decide, fun q9 => ?_⟩
      refine z_astore C dL_marks_13 (by decide) (lv' := [(4, .ref q9), (0, .ref p0), (1, .int p1), (2, .int p2), (3, .ref p3)]) rfl ?_
      refine z_iconst C (v := 1) dL_marks_15 (by decide) ?_
      exact z_ireturn C dL_marks_16 (by cases hf; rfl)
    · exact nomatch hf
theorem ML_marks (l : Launch) (hl9 : l.stackTraces = false) (D : va_G) (T : zT) (lo : Nat) (hi : Nat) {h : zH} {p0 : Nat} {p1 : Int32} {p2 : Int32} {p3 : Nat} {v9 : Int32} {h9 : zH} (hf : FL_marks T p0 p1 p2 p3 h = some (v9, h9)) : zMW l yL_marks (.codeWith yL_marks cL_marks 5 (some .int) [(0, 10, 13, 28)] :: TW) ({ frames := 8, cells := 1, slots := 6, locals := 134 } : Room) D T lo [.ref p0, .int p1, .int p2, .ref p3] hi h (some (.int v9), hi, h9) :=
  z_enterW hl9 (own := RL) (nm := "marks") (lv := [(0, .ref p0), (1, .int p1), (2, .int p2), (3, .ref p3)]) (by decide +kernel) rfl rfl (Nat.le_of_ble_eq_true rfl) rfl (fun _ _ _ _ _ _ _ _ C => BL_marks C hf)
theorem dL_mark_0 : decode cL_mark 0 = .ok (.aload 5, 2) := by decide +kernel
theorem dL_mark_2 : decode cL_mark 2 = .ok (.iconst 0, 1) := by decide +kernel
theorem dL_mark_3 : decode cL_mark 3 = .ok (.aload_n 0, 1) := by decide +kernel
theorem dL_mark_4 : decode cL_mark 4 = .ok (.iload_n 1, 1) := by decide +kernel
theorem dL_mark_5 : decode cL_mark 5 = .ok (.iload_n 2, 1) := by decide +kernel
theorem dL_mark_6 : decode cL_mark 6 = .ok (.iload_n 3, 1) := by decide +kernel
theorem dL_mark_7 : decode cL_mark 7 = .ok (.iload 4, 2) := by decide +kernel
theorem dL_mark_9 : decode cL_mark 9 = .ok (.invokevirtual 33, 3) := by decide +kernel
theorem dL_mark_12 : decode cL_mark 12 = .ok (.i2l, 1) := by decide +kernel
theorem dL_mark_13 : decode cL_mark 13 = .ok (.lastore, 1) := by decide +kernel
theorem dL_mark_14 : decode cL_mark 14 = .ok (.goto 11, 3) := by decide +kernel
theorem dL_mark_17 : decode cL_mark 17 = .ok (.astore 6, 2) := by decide +kernel
theorem dL_mark_19 : decode cL_mark 19 = .ok (.iconst 1, 1) := by decide +kernel
theorem dL_mark_20 : decode cL_mark 20 = .ok (.ireturn, 1) := by decide +kernel
theorem dL_mark_21 : decode cL_mark 21 = .ok (.astore 6, 2) := by decide +kernel
theorem dL_mark_23 : decode cL_mark 23 = .ok (.iconst 2, 1) := by decide +kernel
theorem dL_mark_24 : decode cL_mark 24 = .ok (.ireturn, 1) := by decide +kernel
theorem dL_mark_25 : decode cL_mark 25 = .ok (.iconst 0, 1) := by decide +kernel
theorem dL_mark_26 : decode cL_mark 26 = .ok (.ireturn, 1) := by decide +kernel
def FL_mark (T : zT) (p0 : Nat) (p1 : Int32) (p2 : Int32) (p3 : Int32) (p4 : Int32) (p5 : Nat) (h : zH) : Option (Int32 × zH) := zbh (FX6_mark T p0 p1 p2 p3 p4 h) (fun x2 h3 => (zls T h3 p5 0 x2.toInt64).bind fun h4 => some (0, h4)) (fun E5 h6 => if E5 = "java/lang/IndexOutOfBoundsException" then (some (1, h6)) else (if E5 = "java/lang/IllegalArgumentException" then (some (2, h6)) else (none)))
set_option maxHeartbeats 4000000 in
set_option maxRecDepth 100000 in
theorem BL_mark {X : zX} (CW : zCW X cL_mark 7 RL "mark" (some .int) 8 144 [(0, 14, 17, 28), (0, 14, 21, 13)]) {hi : Nat} {h : zH} {p0 : Nat} {p1 : Int32} {p2 : Int32} {p3 : Int32} {p4 : Int32} {p5 : Nat} {r9 : (Int32 × zH)} (hf : FL_mark (xT X) p0 p1 p2 p3 p4 p5 h = some r9) : zW X 7 (zZ X false (some (.int r9.1), hi, r9.2)) 2 12 false hi h 0 [(0, .ref p0), (1, .int p1), (2, .int p2), (3, .int p3), (4, .int p4), (5, .ref p5)] [] := by
  have C := CW.1
  unfold FL_mark at hf
  refine z_aload C dL_mark_0 5 rfl ?_
  refine z_iconst C (v := 0) dL_mark_2 (by decide) ?_
  refine z_aload_n C dL_mark_3 0 rfl rfl ?_
  refine z_iload_n C dL_mark_4 1 rfl rfl ?_
  refine z_iload_n C dL_mark_5 2 rfl rfl ?_
  refine z_iload_n C dL_mark_6 3 rfl rfl ?_
  refine z_iload C dL_mark_7 4 rfl ?_
  refine z_callVH (kc' := 0) (ks' := 0) CW hf (fun _ _ e => MX6_mark (xl X) CW.2.2.2.2 (xD X) (xT X) (xlo X) hi e) (fun _ e => OX6_mark e) rfl cw_L_33 yv_X6_mark dL_mark_9 rfl (by decide) ⟨rfl, rfl⟩ (Nat.le_of_ble_eq_true rfl) (st := [.int 0, .ref p5]) rfl ?_ ?_
  · intro x2 h3 hf
    refine z_i2l C dL_mark_12 ?_
    refine z_lastore C dL_mark_13 hf (fun h4 hf => ?_)
    refine z_goto (tgt := 25) C dL_mark_14 (by decide) ?_
    refine z_iconst C (v := 0) dL_mark_25 (by decide) ?_
    exact z_ireturn C dL_mark_26 (by cases hf; rfl)
  · intro E5 h6 hf
    refine z_ite hf (fun c hf => ?_) (fun c hf => ?_)
    · subst c
      refine ⟨[], ⟨0, 14, 17, 28⟩, [⟨0, 14, 21, 13⟩], "java/lang/IndexOutOfBoundsException", rfl, (fun _ hz => nomatch hz), by decide, by decide, mw_652, by decide, fun q9 => ?_⟩
      refine z_astore C dL_mark_17 (by decide) (lv' := [(6, .ref q9), (0, .ref p0), (1, .int p1), (2, .int p2), (3, .int p3), (4, .int p4), (5, .ref p5)]) rfl ?_
      refine z_iconst C (v := 1) dL_mark_19 (by decide) ?_
      exact z_ireturn C dL_mark_20 (by cases hf; rfl)
    · refine z_ite hf (fun c hf => ?_) (fun c hf => ?_)
      · subst c
        refine ⟨[⟨0, 14, 17, 28⟩], ⟨0, 14, 21, 13⟩, [], "java/lang/IllegalArgumentException", rfl, (by intro z hz; rcases List.mem_cons.mp hz with rfl | hz; exact Or.inr ⟨by decide, "java/lang/IndexOutOfBoundsException", mw_652, by decide⟩; exact absurd hz List.not_mem_nil), by decide, by decide, mw_519, by decide, fun q9 => ?_⟩
        refine z_astore C dL_mark_21 (by decide) (lv' := [(6, .ref q9), (0, .ref p0), (1, .int p1), (2, .int p2), (3, .int p3), (4, .int p4), (5, .ref p5)]) rfl ?_
        refine z_iconst C (v := 2) dL_mark_23 (by decide) ?_
        exact z_ireturn C dL_mark_24 (by cases hf; rfl)
      · exact nomatch hf
theorem ML_mark (l : Launch) (hl9 : l.stackTraces = false) (D : va_G) (T : zT) (lo : Nat) (hi : Nat) {h : zH} {p0 : Nat} {p1 : Int32} {p2 : Int32} {p3 : Int32} {p4 : Int32} {p5 : Nat} {v9 : Int32} {h9 : zH} (hf : FL_mark T p0 p1 p2 p3 p4 p5 h = some (v9, h9)) : zMW l yL_mark (.codeWith yL_mark cL_mark 7 (some .int) [(0, 14, 17, 28), (0, 14, 21, 13)] :: TW) ({ frames := 8, cells := 2, slots := 12, locals := 144 } : Room) D T lo [.ref p0, .int p1, .int p2, .int p3, .int p4, .ref p5] hi h (some (.int v9), hi, h9) :=
  z_enterW hl9 (own := RL) (nm := "mark") (lv := [(0, .ref p0), (1, .int p1), (2, .int p2), (3, .int p3), (4, .int p4), (5, .ref p5)]) (by decide +kernel) rfl rfl (Nat.le_of_ble_eq_true rfl) rfl (fun _ _ _ _ _ _ _ _ C => BL_mark C hf)
theorem dL_wordLength_0 : decode cL_wordLength 0 = .ok (.aload_n 3, 1) := by decide +kernel
theorem dL_wordLength_1 : decode cL_wordLength 1 = .ok (.iconst 0, 1) := by decide +kernel
theorem dL_wordLength_2 : decode cL_wordLength 2 = .ok (.aload_n 0, 1) := by decide +kernel
theorem dL_wordLength_3 : decode cL_wordLength 3 = .ok (.iload_n 1, 1) := by decide +kernel
theorem dL_wordLength_4 : decode cL_wordLength 4 = .ok (.iload_n 2, 1) := by decide +kernel
theorem dL_wordLength_5 : decode cL_wordLength 5 = .ok (.invokevirtual 37, 3) := by decide +kernel
theorem dL_wordLength_8 : decode cL_wordLength 8 = .ok (.i2l, 1) := by decide +kernel
theorem dL_wordLength_9 : decode cL_wordLength 9 = .ok (.lastore, 1) := by decide +kernel
theorem dL_wordLength_10 : decode cL_wordLength 10 = .ok (.goto 7, 3) := by decide +kernel
theorem dL_wordLength_13 : decode cL_wordLength 13 = .ok (.astore 4, 2) := by decide +kernel
theorem dL_wordLength_15 : decode cL_wordLength 15 = .ok (.iconst 1, 1) := by decide +kernel
theorem dL_wordLength_16 : decode cL_wordLength 16 = .ok (.ireturn, 1) := by decide +kernel
theorem dL_wordLength_17 : decode cL_wordLength 17 = .ok (.iconst 0, 1) := by decide +kernel
theorem dL_wordLength_18 : decode cL_wordLength 18 = .ok (.ireturn, 1) := by decide +kernel
def FL_wordLength (T : zT) (p0 : Nat) (p1 : Int32) (p2 : Int32) (p3 : Nat) (h : zH) : Option (Int32 × zH) := zbh (FX6_wordLength T p0 p1 p2 h) (fun x2 h3 => (zls T h3 p3 0 x2.toInt64).bind fun h4 => some (0, h4)) (fun E5 h6 => if E5 = "java/lang/IndexOutOfBoundsException" then (some (1, h6)) else (none))
set_option maxHeartbeats 4000000 in
set_option maxRecDepth 100000 in
theorem BL_wordLength {X : zX} (CW : zCW X cL_wordLength 5 RL "wordLength" (some .int) 8 170 [(0, 10, 13, 28)]) {hi : Nat} {h : zH} {p0 : Nat} {p1 : Int32} {p2 : Int32} {p3 : Nat} {r9 : (Int32 × zH)} (hf : FL_wordLength (xT X) p0 p1 p2 p3 h = some r9) : zW X 5 (zZ X false (some (.int r9.1), hi, r9.2)) 2 12 false hi h 0 [(0, .ref p0), (1, .int p1), (2, .int p2), (3, .ref p3)] [] := by
  have C := CW.1
  unfold FL_wordLength at hf
  refine z_aload_n C dL_wordLength_0 3 rfl rfl ?_
  refine z_iconst C (v := 0) dL_wordLength_1 (by decide) ?_
  refine z_aload_n C dL_wordLength_2 0 rfl rfl ?_
  refine z_iload_n C dL_wordLength_3 1 rfl rfl ?_
  refine z_iload_n C dL_wordLength_4 2 rfl rfl ?_
  refine z_callVH (kc' := 0) (ks' := 0) CW hf (fun _ _ e => MX6_wordLength (xl X) CW.2.2.2.2 (xD X) (xT X) (xlo X) hi e) (fun _ e => OX6_wordLength e) rfl cw_L_37 yv_X6_wordLength dL_wordLength_5 rfl (by decide) ⟨rfl, rfl⟩ (Nat.le_of_ble_eq_true rfl) (st := [.int 0, .ref p3]) rfl ?_ ?_
  · intro x2 h3 hf
    refine z_i2l C dL_wordLength_8 ?_
    refine z_lastore C dL_wordLength_9 hf (fun h4 hf => ?_)
    refine z_goto (tgt := 17) C dL_wordLength_10 (by decide) ?_
    refine z_iconst C (v := 0) dL_wordLength_17 (by decide) ?_
    exact z_ireturn C dL_wordLength_18 (by cases hf; rfl)
  · intro E5 h6 hf
    refine z_ite hf (fun c hf => ?_) (fun c hf => ?_)
    · subst c
      refine ⟨[], ⟨0, 10, 13, 28⟩, [], "java/lang/IndexOutOfBoundsException", rfl, (fun _ hz => nomatch hz), by decide, by decide, mw_652, by decide, fun q9 => ?_⟩
      refine z_astore C dL_wordLength_13 (by decide) (lv' := [(4, .ref q9), (0, .ref p0), (1, .int p1), (2, .int p2), (3, .ref p3)]) rfl ?_
      refine z_iconst C (v := 1) dL_wordLength_15 (by decide) ?_
      exact z_ireturn C dL_wordLength_16 (by cases hf; rfl)
    · exact nomatch hf
theorem ML_wordLength (l : Launch) (hl9 : l.stackTraces = false) (D : va_G) (T : zT) (lo : Nat) (hi : Nat) {h : zH} {p0 : Nat} {p1 : Int32} {p2 : Int32} {p3 : Nat} {v9 : Int32} {h9 : zH} (hf : FL_wordLength T p0 p1 p2 p3 h = some (v9, h9)) : zMW l yL_wordLength (.codeWith yL_wordLength cL_wordLength 5 (some .int) [(0, 10, 13, 28)] :: TW) ({ frames := 8, cells := 2, slots := 12, locals := 170 } : Room) D T lo [.ref p0, .int p1, .int p2, .ref p3] hi h (some (.int v9), hi, h9) :=
  z_enterW hl9 (own := RL) (nm := "wordLength") (lv := [(0, .ref p0), (1, .int p1), (2, .int p2), (3, .ref p3)]) (by decide +kernel) rfl rfl (Nat.le_of_ble_eq_true rfl) rfl (fun _ _ _ _ _ _ _ _ C => BL_wordLength C hf)
theorem dL_sign_0 : decode cL_sign 0 = .ok (.aload 4, 2) := by decide +kernel
theorem dL_sign_2 : decode cL_sign 2 = .ok (.iconst 0, 1) := by decide +kernel
theorem dL_sign_3 : decode cL_sign 3 = .ok (.aload_n 0, 1) := by decide +kernel
theorem dL_sign_4 : decode cL_sign 4 = .ok (.iload_n 1, 1) := by decide +kernel
theorem dL_sign_5 : decode cL_sign 5 = .ok (.iload_n 2, 1) := by decide +kernel
theorem dL_sign_6 : decode cL_sign 6 = .ok (.iload_n 3, 1) := by decide +kernel
theorem dL_sign_7 : decode cL_sign 7 = .ok (.invokevirtual 40, 3) := by decide +kernel
theorem dL_sign_10 : decode cL_sign 10 = .ok (.i2l, 1) := by decide +kernel
theorem dL_sign_11 : decode cL_sign 11 = .ok (.lastore, 1) := by decide +kernel
theorem dL_sign_12 : decode cL_sign 12 = .ok (.goto 11, 3) := by decide +kernel
theorem dL_sign_15 : decode cL_sign 15 = .ok (.astore 5, 2) := by decide +kernel
theorem dL_sign_17 : decode cL_sign 17 = .ok (.iconst 1, 1) := by decide +kernel
theorem dL_sign_18 : decode cL_sign 18 = .ok (.ireturn, 1) := by decide +kernel
theorem dL_sign_19 : decode cL_sign 19 = .ok (.astore 5, 2) := by decide +kernel
theorem dL_sign_21 : decode cL_sign 21 = .ok (.iconst 2, 1) := by decide +kernel
theorem dL_sign_22 : decode cL_sign 22 = .ok (.ireturn, 1) := by decide +kernel
theorem dL_sign_23 : decode cL_sign 23 = .ok (.iconst 0, 1) := by decide +kernel
theorem dL_sign_24 : decode cL_sign 24 = .ok (.ireturn, 1) := by decide +kernel
def FL_sign (T : zT) (p0 : Nat) (p1 : Int32) (p2 : Int32) (p3 : Int32) (p4 : Nat) (h : zH) : Option (Int32 × zH) := zbh (FX6_sign T p0 p1 p2 p3 h) (fun x2 h3 => (zls T h3 p4 0 x2.toInt64).bind fun h4 => some (0, h4)) (fun E5 h6 => if E5 = "java/lang/IndexOutOfBoundsException" then (some (1, h6)) else (if E5 = "java/lang/IllegalArgumentException" then (some (2, h6)) else (none)))
set_option maxHeartbeats 4000000 in
set_option maxRecDepth 100000 in
theorem BL_sign {X : zX} (CW : zCW X cL_sign 6 RL "sign" (some .int) 8 171 [(0, 12, 15, 28), (0, 12, 19, 13)]) {hi : Nat} {h : zH} {p0 : Nat} {p1 : Int32} {p2 : Int32} {p3 : Int32} {p4 : Nat} {r9 : (Int32 × zH)} (hf : FL_sign (xT X) p0 p1 p2 p3 p4 h = some r9) : zW X 6 (zZ X false (some (.int r9.1), hi, r9.2)) 3 18 false hi h 0 [(0, .ref p0), (1, .int p1), (2, .int p2), (3, .int p3), (4, .ref p4)] [] := by
  have C := CW.1
  unfold FL_sign at hf
  refine z_aload C dL_sign_0 4 rfl ?_
  refine z_iconst C (v := 0) dL_sign_2 (by decide) ?_
  refine z_aload_n C dL_sign_3 0 rfl rfl ?_
  refine z_iload_n C dL_sign_4 1 rfl rfl ?_
  refine z_iload_n C dL_sign_5 2 rfl rfl ?_
  refine z_iload_n C dL_sign_6 3 rfl rfl ?_
  refine z_callVH (kc' := 0) (ks' := 0) CW hf (fun _ _ e => MX6_sign (xl X) CW.2.2.2.2 (xD X) (xT X) (xlo X) hi e) (fun _ e => OX6_sign e) rfl cw_L_40 yv_X6_sign dL_sign_7 rfl (by decide) ⟨rfl, rfl⟩ (Nat.le_of_ble_eq_true rfl) (st := [.int 0, .ref p4]) rfl ?_ ?_
  · intro x2 h3 hf
    refine z_i2l C dL_sign_10 ?_
    refine z_lastore C dL_sign_11 hf (fun h4 hf => ?_)
    refine z_goto (tgt := 23) C dL_sign_12 (by decide) ?_
    refine z_iconst C (v := 0) dL_sign_23 (by decide) ?_
    exact z_ireturn C dL_sign_24 (by cases hf; rfl)
  · intro E5 h6 hf
    refine z_ite hf (fun c hf => ?_) (fun c hf => ?_)
    · subst c
      refine ⟨[], ⟨0, 12, 15, 28⟩, [⟨0, 12, 19, 13⟩], "java/lang/IndexOutOfBoundsException", rfl, (fun _ hz => nomatch hz), by decide, by decide, mw_652, by decide, fun q9 => ?_⟩
      refine z_astore C dL_sign_15 (by decide) (lv' := [(5, .ref q9), (0, .ref p0), (1, .int p1), (2, .int p2), (3, .int p3), (4, .ref p4)]) rfl ?_
      refine z_iconst C (v := 1) dL_sign_17 (by decide) ?_
      exact z_ireturn C dL_sign_18 (by cases hf; rfl)
    · refine z_ite hf (fun c hf => ?_) (fun c hf => ?_)
      · subst c
        refine ⟨[⟨0, 12, 15, 28⟩], ⟨0, 12, 19, 13⟩, [], "java/lang/IllegalArgumentException", rfl, (by intro z hz; rcases List.mem_cons.mp hz with rfl | hz; exact Or.inr ⟨by decide, "java/lang/IndexOutOfBoundsException", mw_652, by decide⟩; exact absurd hz List.not_mem_nil), by decide, by decide, mw_519, by decide, fun q9 => ?_⟩
        refine z_astore C dL_sign_19 (by decide) (lv' := [(5, .ref q9), (0, .ref p0), (1, .int p1), (2, .int p2), (3, .int p3), (4, .ref p4)]) rfl ?_
        refine z_iconst C (v := 2) dL_sign_21 (by decide) ?_
        exact z_ireturn C dL_sign_22 (by cases hf; rfl)
      · exact nomatch hf
theorem ML_sign (l : Launch) (hl9 : l.stackTraces = false) (D : va_G) (T : zT) (lo : Nat) (hi : Nat) {h : zH} {p0 : Nat} {p1 : Int32} {p2 : Int32} {p3 : Int32} {p4 : Nat} {v9 : Int32} {h9 : zH} (hf : FL_sign T p0 p1 p2 p3 p4 h = some (v9, h9)) : zMW l yL_sign (.codeWith yL_sign cL_sign 6 (some .int) [(0, 12, 15, 28), (0, 12, 19, 13)] :: TW) ({ frames := 8, cells := 3, slots := 18, locals := 171 } : Room) D T lo [.ref p0, .int p1, .int p2, .int p3, .ref p4] hi h (some (.int v9), hi, h9) :=
  z_enterW hl9 (own := RL) (nm := "sign") (lv := [(0, .ref p0), (1, .int p1), (2, .int p2), (3, .int p3), (4, .ref p4)]) (by decide +kernel) rfl rfl (Nat.le_of_ble_eq_true rfl) rfl (fun _ _ _ _ _ _ _ _ C => BL_sign C hf)
theorem dL_wordAt_0 : decode cL_wordAt 0 = .ok (.aload 4, 2) := by decide +kernel
theorem dL_wordAt_2 : decode cL_wordAt 2 = .ok (.iconst 0, 1) := by decide +kernel
theorem dL_wordAt_3 : decode cL_wordAt 3 = .ok (.aload_n 0, 1) := by decide +kernel
theorem dL_wordAt_4 : decode cL_wordAt 4 = .ok (.iload_n 1, 1) := by decide +kernel
theorem dL_wordAt_5 : decode cL_wordAt 5 = .ok (.iload_n 2, 1) := by decide +kernel
theorem dL_wordAt_6 : decode cL_wordAt 6 = .ok (.iload_n 3, 1) := by decide +kernel
theorem dL_wordAt_7 : decode cL_wordAt 7 = .ok (.invokevirtual 44, 3) := by decide +kernel
theorem dL_wordAt_10 : decode cL_wordAt 10 = .ok (.i2l, 1) := by decide +kernel
theorem dL_wordAt_11 : decode cL_wordAt 11 = .ok (.lastore, 1) := by decide +kernel
theorem dL_wordAt_12 : decode cL_wordAt 12 = .ok (.goto 7, 3) := by decide +kernel
theorem dL_wordAt_15 : decode cL_wordAt 15 = .ok (.astore 5, 2) := by decide +kernel
theorem dL_wordAt_17 : decode cL_wordAt 17 = .ok (.iconst 1, 1) := by decide +kernel
theorem dL_wordAt_18 : decode cL_wordAt 18 = .ok (.ireturn, 1) := by decide +kernel
theorem dL_wordAt_19 : decode cL_wordAt 19 = .ok (.iconst 0, 1) := by decide +kernel
theorem dL_wordAt_20 : decode cL_wordAt 20 = .ok (.ireturn, 1) := by decide +kernel
def FL_wordAt (T : zT) (p0 : Nat) (p1 : Int32) (p2 : Int32) (p3 : Int32) (p4 : Nat) (h : zH) : Option (Int32 × zH) := zbh (FX6_wordAt T p0 p1 p2 p3 h) (fun x2 h3 => (zls T h3 p4 0 x2.toInt64).bind fun h4 => some (0, h4)) (fun E5 h6 => if E5 = "java/lang/IndexOutOfBoundsException" then (some (1, h6)) else (none))
set_option maxHeartbeats 4000000 in
set_option maxRecDepth 100000 in
theorem BL_wordAt {X : zX} (CW : zCW X cL_wordAt 6 RL "wordAt" (some .int) 8 171 [(0, 12, 15, 28)]) {hi : Nat} {h : zH} {p0 : Nat} {p1 : Int32} {p2 : Int32} {p3 : Int32} {p4 : Nat} {r9 : (Int32 × zH)} (hf : FL_wordAt (xT X) p0 p1 p2 p3 p4 h = some r9) : zW X 6 (zZ X false (some (.int r9.1), hi, r9.2)) 2 12 false hi h 0 [(0, .ref p0), (1, .int p1), (2, .int p2), (3, .int p3), (4, .ref p4)] [] := by
  have C := CW.1
  unfold FL_wordAt at hf
  refine z_aload C dL_wordAt_0 4 rfl ?_
  refine z_iconst C (v := 0) dL_wordAt_2 (by decide) ?_
  refine z_aload_n C dL_wordAt_3 0 rfl rfl ?_
  refine z_iload_n C dL_wordAt_4 1 rfl rfl ?_
  refine z_iload_n C dL_wordAt_5 2 rfl rfl ?_
  refine z_iload_n C dL_wordAt_6 3 rfl rfl ?_
  refine z_callVH (kc' := 0) (ks' := 0) CW hf (fun _ _ e => MX6_wordAt (xl X) CW.2.2.2.2 (xD X) (xT X) (xlo X) hi e) (fun _ e => OX6_wordAt e) rfl cw_L_44 yv_X6_wordAt dL_wordAt_7 rfl (by decide) ⟨rfl, rfl⟩ (Nat.le_of_ble_eq_true rfl) (st := [.int 0, .ref p4]) rfl ?_ ?_
  · intro x2 h3 hf
    refine z_i2l C dL_wordAt_10 ?_
    refine z_lastore C dL_wordAt_11 hf (fun h4 hf => ?_)
    refine z_goto (tgt := 19) C dL_wordAt_12 (by decide) ?_
    refine z_iconst C (v := 0) dL_wordAt_19 (by decide) ?_
    exact z_ireturn C dL_wordAt_20 (by cases hf; rfl)
  · intro E5 h6 hf
    refine z_ite hf (fun c hf => ?_) (fun c hf => ?_)
    · subst c
      refine ⟨[], ⟨0, 12, 15, 28⟩, [], "java/lang/IndexOutOfBoundsException", rfl, (fun _ hz => nomatch hz), by decide, by decide, mw_652, by decide, fun q9 => ?_⟩
      refine z_astore C dL_wordAt_15 (by decide) (lv' := [(5, .ref q9), (0, .ref p0), (1, .int p1), (2, .int p2), (3, .int p3), (4, .ref p4)]) rfl ?_
      refine z_iconst C (v := 1) dL_wordAt_17 (by decide) ?_
      exact z_ireturn C dL_wordAt_18 (by cases hf; rfl)
    · exact nomatch hf
theorem ML_wordAt (l : Launch) (hl9 : l.stackTraces = false) (D : va_G) (T : zT) (lo : Nat) (hi : Nat) {h : zH} {p0 : Nat} {p1 : Int32} {p2 : Int32} {p3 : Int32} {p4 : Nat} {v9 : Int32} {h9 : zH} (hf : FL_wordAt T p0 p1 p2 p3 p4 h = some (v9, h9)) : zMW l yL_wordAt (.codeWith yL_wordAt cL_wordAt 6 (some .int) [(0, 12, 15, 28)] :: TW) ({ frames := 8, cells := 2, slots := 12, locals := 171 } : Room) D T lo [.ref p0, .int p1, .int p2, .int p3, .ref p4] hi h (some (.int v9), hi, h9) :=
  z_enterW hl9 (own := RL) (nm := "wordAt") (lv := [(0, .ref p0), (1, .int p1), (2, .int p2), (3, .int p3), (4, .ref p4)]) (by decide +kernel) rfl rfl (Nat.le_of_ble_eq_true rfl) rfl (fun _ _ _ _ _ _ _ _ C => BL_wordAt C hf)
theorem dL_write_0 : decode cL_write 0 = .ok (.aload 6, 2) := by decide +kernel
theorem dL_write_2 : decode cL_write 2 = .ok (.iconst 0, 1) := by decide +kernel
theorem dL_write_3 : decode cL_write 3 = .ok (.aload_n 0, 1) := by decide +kernel
theorem dL_write_4 : decode cL_write 4 = .ok (.iload_n 1, 1) := by decide +kernel
theorem dL_write_5 : decode cL_write 5 = .ok (.iload_n 2, 1) := by decide +kernel
theorem dL_write_6 : decode cL_write 6 = .ok (.iload_n 3, 1) := by decide +kernel
theorem dL_write_7 : decode cL_write 7 = .ok (.iload 4, 2) := by decide +kernel
theorem dL_write_9 : decode cL_write 9 = .ok (.iload 5, 2) := by decide +kernel
theorem dL_write_11 : decode cL_write 11 = .ok (.invokevirtual 47, 3) := by decide +kernel
theorem dL_write_14 : decode cL_write 14 = .ok (.i2l, 1) := by decide +kernel
theorem dL_write_15 : decode cL_write 15 = .ok (.lastore, 1) := by decide +kernel
theorem dL_write_16 : decode cL_write 16 = .ok (.goto 15, 3) := by decide +kernel
theorem dL_write_19 : decode cL_write 19 = .ok (.astore 7, 2) := by decide +kernel
theorem dL_write_21 : decode cL_write 21 = .ok (.iconst 1, 1) := by decide +kernel
theorem dL_write_22 : decode cL_write 22 = .ok (.ireturn, 1) := by decide +kernel
theorem dL_write_23 : decode cL_write 23 = .ok (.astore 7, 2) := by decide +kernel
theorem dL_write_25 : decode cL_write 25 = .ok (.iconst 2, 1) := by decide +kernel
theorem dL_write_26 : decode cL_write 26 = .ok (.ireturn, 1) := by decide +kernel
theorem dL_write_27 : decode cL_write 27 = .ok (.astore 7, 2) := by decide +kernel
theorem dL_write_29 : decode cL_write 29 = .ok (.iconst 3, 1) := by decide +kernel
theorem dL_write_30 : decode cL_write 30 = .ok (.ireturn, 1) := by decide +kernel
theorem dL_write_31 : decode cL_write 31 = .ok (.iconst 0, 1) := by decide +kernel
theorem dL_write_32 : decode cL_write 32 = .ok (.ireturn, 1) := by decide +kernel
def FL_write (T : zT) (p0 : Nat) (p1 : Int32) (p2 : Int32) (p3 : Int32) (p4 : Int32) (p5 : Int32) (p6 : Nat) (h : zH) : Option (Int32 × zH) := zbh (FX6_write T p0 p1 p2 p3 p4 p5 h) (fun x2 h3 => (zls T h3 p6 0 x2.toInt64).bind fun h4 => some (0, h4)) (fun E5 h6 => if E5 = "java/lang/IndexOutOfBoundsException" then (some (1, h6)) else (if E5 = "java/lang/IllegalArgumentException" then (some (2, h6)) else (if E5 = "java/lang/IllegalStateException" then (some (3, h6)) else (none))))
set_option maxHeartbeats 4000000 in
set_option maxRecDepth 100000 in
theorem BL_write {X : zX} (CW : zCW X cL_write 8 RL "write" (some .int) 8 138 [(0, 16, 19, 28), (0, 16, 23, 13), (0, 16, 27, 15)]) {hi : Nat} {h : zH} {p0 : Nat} {p1 : Int32} {p2 : Int32} {p3 : Int32} {p4 : Int32} {p5 : Int32} {p6 : Nat} {r9 : (Int32 × zH)} (hf : FL_write (xT X) p0 p1 p2 p3 p4 p5 p6 h = some r9) : zW X 8 (zZ X false (some (.int r9.1), hi, r9.2)) 5 30 false hi h 0 [(0, .ref p0), (1, .int p1), (2, .int p2), (3, .int p3), (4, .int p4), (5, .int p5), (6, .ref p6)] [] := by
  have C := CW.1
  unfold FL_write at hf
  refine z_aload C dL_write_0 6 rfl ?_
  refine z_iconst C (v := 0) dL_write_2 (by decide) ?_
  refine z_aload_n C dL_write_3 0 rfl rfl ?_
  refine z_iload_n C dL_write_4 1 rfl rfl ?_
  refine z_iload_n C dL_write_5 2 rfl rfl ?_
  refine z_iload_n C dL_write_6 3 rfl rfl ?_
  refine z_iload C dL_write_7 4 rfl ?_
  refine z_iload C dL_write_9 5 rfl ?_
  refine z_callVH (kc' := 0) (ks' := 0) CW hf (fun _ _ e => MX6_write (xl X) CW.2.2.2.2 (xD X) (xT X) (xlo X) hi e) (fun _ e => OX6_write e) rfl cw_L_47 yv_X6_write dL_write_11 rfl (by decide) ⟨rfl, rfl⟩ (Nat.le_of_ble_eq_true rfl) (st := [.int 0, .ref p6]) rfl ?_ ?_
  · intro x2 h3 hf
    refine z_i2l C dL_write_14 ?_
    refine z_lastore C dL_write_15 hf (fun h4 hf => ?_)
    refine z_goto (tgt := 31) C dL_write_16 (by decide) ?_
    refine z_iconst C (v := 0) dL_write_31 (by decide) ?_
    exact z_ireturn C dL_write_32 (by cases hf; rfl)
  · intro E5 h6 hf
    refine z_ite hf (fun c hf => ?_) (fun c hf => ?_)
    · subst c
      refine ⟨[], ⟨0, 16, 19, 28⟩, [⟨0, 16, 23, 13⟩, ⟨0, 16, 27, 15⟩], "java/lang/IndexOutOfBoundsException", rfl, (fun _ hz => nomatch hz), by decide, by decide, mw_652, by decide, fun q9 => ?_⟩
      refine z_astore C dL_write_19 (by decide) (lv' := [(7, .ref q9), (0, .ref p0), (1, .int p1), (2, .int p2), (3, .int p3), (4, .int p4), (5, .int p5), (6, .ref p6)]) rfl ?_
      refine z_iconst C (v := 1) dL_write_21 (by decide) ?_
      exact z_ireturn C dL_write_22 (by cases hf; rfl)
    · refine z_ite hf (fun c hf => ?_) (fun c hf => ?_)
      · subst c
        refine ⟨[⟨0, 16, 19, 28⟩], ⟨0, 16, 23, 13⟩, [⟨0, 16, 27, 15⟩], "java/lang/IllegalArgumentException", rfl, (by intro z hz; rcases List.mem_cons.mp hz with rfl | hz; exact Or.inr ⟨by decide, "java/lang/IndexOutOfBoundsException", mw_652, by decide⟩; exact absurd hz List.not_mem_nil), by decide, by decide, mw_519, by decide, fun q9 => ?_⟩
        refine z_astore C dL_write_23 (by decide) (lv' := [(7, .ref q9), (0, .ref p0), (1, .int p1), (2, .int p2), (3, .int p3), (4, .int p4), (5, .int p5), (6, .ref p6)]) rfl ?_
        refine z_iconst C (v := 2) dL_write_25 (by decide) ?_
        exact z_ireturn C dL_write_26 (by cases hf; rfl)
      · refine z_ite hf (fun c hf => ?_) (fun c hf => ?_)
        · subst c
          refine ⟨[⟨0, 16, 19, 28⟩, ⟨0, 16, 23, 13⟩], ⟨0, 16, 27, 15⟩, [], "java/lang/IllegalStateException", rfl, (by intro z hz; rcases List.mem_cons.mp hz with rfl | hz; exact Or.inr ⟨by decide, "java/lang/IndexOutOfBoundsException", mw_652, by decide⟩; rcases List.mem_cons.mp hz with rfl | hz; exact Or.inr ⟨by decide, "java/lang/IllegalArgumentException", mw_519, by decide⟩; exact absurd hz List.not_mem_nil), by decide, by decide, mw_520, by decide, fun q9 => ?_⟩
          refine z_astore C dL_write_27 (by decide) (lv' := [(7, .ref q9), (0, .ref p0), (1, .int p1), (2, .int p2), (3, .int p3), (4, .int p4), (5, .int p5), (6, .ref p6)]) rfl ?_
          refine z_iconst C (v := 3) dL_write_29 (by decide) ?_
          exact z_ireturn C dL_write_30 (by cases hf; rfl)
        · exact nomatch hf
theorem ML_write (l : Launch) (hl9 : l.stackTraces = false) (D : va_G) (T : zT) (lo : Nat) (hi : Nat) {h : zH} {p0 : Nat} {p1 : Int32} {p2 : Int32} {p3 : Int32} {p4 : Int32} {p5 : Int32} {p6 : Nat} {v9 : Int32} {h9 : zH} (hf : FL_write T p0 p1 p2 p3 p4 p5 p6 h = some (v9, h9)) : zMW l yL_write (.codeWith yL_write cL_write 8 (some .int) [(0, 16, 19, 28), (0, 16, 23, 13), (0, 16, 27, 15)] :: TW) ({ frames := 8, cells := 5, slots := 30, locals := 138 } : Room) D T lo [.ref p0, .int p1, .int p2, .int p3, .int p4, .int p5, .ref p6] hi h (some (.int v9), hi, h9) :=
  z_enterW hl9 (own := RL) (nm := "write") (lv := [(0, .ref p0), (1, .int p1), (2, .int p2), (3, .int p3), (4, .int p4), (5, .int p5), (6, .ref p6)]) (by decide +kernel) rfl rfl (Nat.le_of_ble_eq_true rfl) rfl (fun _ _ _ _ _ _ _ _ C => BL_write C hf)
theorem dL_erase_0 : decode cL_erase 0 = .ok (.aload 4, 2) := by decide +kernel
theorem dL_erase_2 : decode cL_erase 2 = .ok (.iconst 0, 1) := by decide +kernel
theorem dL_erase_3 : decode cL_erase 3 = .ok (.aload_n 0, 1) := by decide +kernel
theorem dL_erase_4 : decode cL_erase 4 = .ok (.iload_n 1, 1) := by decide +kernel
theorem dL_erase_5 : decode cL_erase 5 = .ok (.iload_n 2, 1) := by decide +kernel
theorem dL_erase_6 : decode cL_erase 6 = .ok (.iload_n 3, 1) := by decide +kernel
theorem dL_erase_7 : decode cL_erase 7 = .ok (.invokevirtual 51, 3) := by decide +kernel
theorem dL_erase_10 : decode cL_erase 10 = .ok (.i2l, 1) := by decide +kernel
theorem dL_erase_11 : decode cL_erase 11 = .ok (.lastore, 1) := by decide +kernel
theorem dL_erase_12 : decode cL_erase 12 = .ok (.goto 7, 3) := by decide +kernel
theorem dL_erase_15 : decode cL_erase 15 = .ok (.astore 5, 2) := by decide +kernel
theorem dL_erase_17 : decode cL_erase 17 = .ok (.iconst 1, 1) := by decide +kernel
theorem dL_erase_18 : decode cL_erase 18 = .ok (.ireturn, 1) := by decide +kernel
theorem dL_erase_19 : decode cL_erase 19 = .ok (.iconst 0, 1) := by decide +kernel
theorem dL_erase_20 : decode cL_erase 20 = .ok (.ireturn, 1) := by decide +kernel
def FL_erase (T : zT) (p0 : Nat) (p1 : Int32) (p2 : Int32) (p3 : Int32) (p4 : Nat) (h : zH) : Option (Int32 × zH) := zbh (FX6_erase T p0 p1 p2 p3 h) (fun x2 h3 => (zls T h3 p4 0 x2.toInt64).bind fun h4 => some (0, h4)) (fun E5 h6 => if E5 = "java/lang/IndexOutOfBoundsException" then (some (1, h6)) else (none))
set_option maxHeartbeats 4000000 in
set_option maxRecDepth 100000 in
theorem BL_erase {X : zX} (CW : zCW X cL_erase 6 RL "erase" (some .int) 8 137 [(0, 12, 15, 28)]) {hi : Nat} {h : zH} {p0 : Nat} {p1 : Int32} {p2 : Int32} {p3 : Int32} {p4 : Nat} {r9 : (Int32 × zH)} (hf : FL_erase (xT X) p0 p1 p2 p3 p4 h = some r9) : zW X 6 (zZ X false (some (.int r9.1), hi, r9.2)) 1 6 false hi h 0 [(0, .ref p0), (1, .int p1), (2, .int p2), (3, .int p3), (4, .ref p4)] [] := by
  have C := CW.1
  unfold FL_erase at hf
  refine z_aload C dL_erase_0 4 rfl ?_
  refine z_iconst C (v := 0) dL_erase_2 (by decide) ?_
  refine z_aload_n C dL_erase_3 0 rfl rfl ?_
  refine z_iload_n C dL_erase_4 1 rfl rfl ?_
  refine z_iload_n C dL_erase_5 2 rfl rfl ?_
  refine z_iload_n C dL_erase_6 3 rfl rfl ?_
  refine z_callVH (kc' := 0) (ks' := 0) CW hf (fun _ _ e => MX6_erase (xl X) CW.2.2.2.2 (xD X) (xT X) (xlo X) hi e) (fun _ e => OX6_erase e) rfl cw_L_51 yv_X6_erase dL_erase_7 rfl (by decide) ⟨rfl, rfl⟩ (Nat.le_of_ble_eq_true rfl) (st := [.int 0, .ref p4]) rfl ?_ ?_
  · intro x2 h3 hf
    refine z_i2l C dL_erase_10 ?_
    refine z_lastore C dL_erase_11 hf (fun h4 hf => ?_)
    refine z_goto (tgt := 19) C dL_erase_12 (by decide) ?_
    refine z_iconst C (v := 0) dL_erase_19 (by decide) ?_
    exact z_ireturn C dL_erase_20 (by cases hf; rfl)
  · intro E5 h6 hf
    refine z_ite hf (fun c hf => ?_) (fun c hf => ?_)
    · subst c
      refine ⟨[], ⟨0, 12, 15, 28⟩, [], "java/lang/IndexOutOfBoundsException", rfl, (fun _ hz => nomatch hz), by decide, by decide, mw_652, by decide, fun q9 => ?_⟩
      refine z_astore C dL_erase_15 (by decide) (lv' := [(5, .ref q9), (0, .ref p0), (1, .int p1), (2, .int p2), (3, .int p3), (4, .ref p4)]) rfl ?_
      refine z_iconst C (v := 1) dL_erase_17 (by decide) ?_
      exact z_ireturn C dL_erase_18 (by cases hf; rfl)
    · exact nomatch hf
theorem ML_erase (l : Launch) (hl9 : l.stackTraces = false) (D : va_G) (T : zT) (lo : Nat) (hi : Nat) {h : zH} {p0 : Nat} {p1 : Int32} {p2 : Int32} {p3 : Int32} {p4 : Nat} {v9 : Int32} {h9 : zH} (hf : FL_erase T p0 p1 p2 p3 p4 h = some (v9, h9)) : zMW l yL_erase (.codeWith yL_erase cL_erase 6 (some .int) [(0, 12, 15, 28)] :: TW) ({ frames := 8, cells := 1, slots := 6, locals := 137 } : Room) D T lo [.ref p0, .int p1, .int p2, .int p3, .ref p4] hi h (some (.int v9), hi, h9) :=
  z_enterW hl9 (own := RL) (nm := "erase") (lv := [(0, .ref p0), (1, .int p1), (2, .int p2), (3, .int p3), (4, .ref p4)]) (by decide +kernel) rfl rfl (Nat.le_of_ble_eq_true rfl) rfl (fun _ _ _ _ _ _ _ _ C => BL_erase C hf)
theorem dL_decide_0 : decode cL_decide 0 = .ok (.aload 5, 2) := by decide +kernel
theorem dL_decide_2 : decode cL_decide 2 = .ok (.iconst 0, 1) := by decide +kernel
theorem dL_decide_3 : decode cL_decide 3 = .ok (.aload_n 0, 1) := by decide +kernel
theorem dL_decide_4 : decode cL_decide 4 = .ok (.iload_n 1, 1) := by decide +kernel
theorem dL_decide_5 : decode cL_decide 5 = .ok (.iload_n 2, 1) := by decide +kernel
theorem dL_decide_6 : decode cL_decide 6 = .ok (.iload_n 3, 1) := by decide +kernel
theorem dL_decide_7 : decode cL_decide 7 = .ok (.iload 4, 2) := by decide +kernel
theorem dL_decide_9 : decode cL_decide 9 = .ok (.invokevirtual 54, 3) := by decide +kernel
theorem dL_decide_12 : decode cL_decide 12 = .ok (.i2l, 1) := by decide +kernel
theorem dL_decide_13 : decode cL_decide 13 = .ok (.lastore, 1) := by decide +kernel
theorem dL_decide_14 : decode cL_decide 14 = .ok (.goto 15, 3) := by decide +kernel
theorem dL_decide_17 : decode cL_decide 17 = .ok (.astore 6, 2) := by decide +kernel
theorem dL_decide_19 : decode cL_decide 19 = .ok (.iconst 1, 1) := by decide +kernel
theorem dL_decide_20 : decode cL_decide 20 = .ok (.ireturn, 1) := by decide +kernel
theorem dL_decide_21 : decode cL_decide 21 = .ok (.astore 6, 2) := by decide +kernel
theorem dL_decide_23 : decode cL_decide 23 = .ok (.iconst 2, 1) := by decide +kernel
theorem dL_decide_24 : decode cL_decide 24 = .ok (.ireturn, 1) := by decide +kernel
theorem dL_decide_25 : decode cL_decide 25 = .ok (.astore 6, 2) := by decide +kernel
theorem dL_decide_27 : decode cL_decide 27 = .ok (.iconst 3, 1) := by decide +kernel
theorem dL_decide_28 : decode cL_decide 28 = .ok (.ireturn, 1) := by decide +kernel
theorem dL_decide_29 : decode cL_decide 29 = .ok (.iconst 0, 1) := by decide +kernel
theorem dL_decide_30 : decode cL_decide 30 = .ok (.ireturn, 1) := by decide +kernel
def FL_decide (T : zT) (p0 : Nat) (p1 : Int32) (p2 : Int32) (p3 : Int32) (p4 : Int32) (p5 : Nat) (h : zH) : Option (Int32 × zH) := zbh (FX6_decide T p0 p1 p2 p3 p4 h) (fun x2 h3 => (zls T h3 p5 0 x2.toInt64).bind fun h4 => some (0, h4)) (fun E5 h6 => if E5 = "java/lang/IndexOutOfBoundsException" then (some (1, h6)) else (if E5 = "java/lang/IllegalArgumentException" then (some (2, h6)) else (if E5 = "java/lang/IllegalStateException" then (some (3, h6)) else (none))))
set_option maxHeartbeats 4000000 in
set_option maxRecDepth 100000 in
theorem BL_decide {X : zX} (CW : zCW X cL_decide 7 RL "decide" (some .int) 8 142 [(0, 14, 17, 28), (0, 14, 21, 13), (0, 14, 25, 15)]) {hi : Nat} {h : zH} {p0 : Nat} {p1 : Int32} {p2 : Int32} {p3 : Int32} {p4 : Int32} {p5 : Nat} {r9 : (Int32 × zH)} (hf : FL_decide (xT X) p0 p1 p2 p3 p4 p5 h = some r9) : zW X 7 (zZ X false (some (.int r9.1), hi, r9.2)) 3 18 false hi h 0 [(0, .ref p0), (1, .int p1), (2, .int p2), (3, .int p3), (4, .int p4), (5, .ref p5)] [] := by
  have C := CW.1
  unfold FL_decide at hf
  refine z_aload C dL_decide_0 5 rfl ?_
  refine z_iconst C (v := 0) dL_decide_2 (by decide) ?_
  refine z_aload_n C dL_decide_3 0 rfl rfl ?_
  refine z_iload_n C dL_decide_4 1 rfl rfl ?_
  refine z_iload_n C dL_decide_5 2 rfl rfl ?_
  refine z_iload_n C dL_decide_6 3 rfl rfl ?_
  refine z_iload C dL_decide_7 4 rfl ?_
  refine z_callVH (kc' := 0) (ks' := 0) CW hf (fun _ _ e => MX6_decide (xl X) CW.2.2.2.2 (xD X) (xT X) (xlo X) hi e) (fun _ e => OX6_decide e) rfl cw_L_54 yv_X6_decide dL_decide_9 rfl (by decide) ⟨rfl, rfl⟩ (Nat.le_of_ble_eq_true rfl) (st := [.int 0, .ref p5]) rfl ?_ ?_
  · intro x2 h3 hf
    refine z_i2l C dL_decide_12 ?_
    refine z_lastore C dL_decide_13 hf (fun h4 hf => ?_)
    refine z_goto (tgt := 29) C dL_decide_14 (by decide) ?_
    refine z_iconst C (v := 0) dL_decide_29 (by decide) ?_
    exact z_ireturn C dL_decide_30 (by cases hf; rfl)
  · intro E5 h6 hf
    refine z_ite hf (fun c hf => ?_) (fun c hf => ?_)
    · subst c
      refine ⟨[], ⟨0, 14, 17, 28⟩, [⟨0, 14, 21, 13⟩, ⟨0, 14, 25, 15⟩], "java/lang/IndexOutOfBoundsException", rfl, (fun _ hz => nomatch hz), by decide, by decide, mw_652, by decide, fun q9 => ?_⟩
      refine z_astore C dL_decide_17 (by decide) (lv' := [(6, .ref q9), (0, .ref p0), (1, .int p1), (2, .int p2), (3, .int p3), (4, .int p4), (5, .ref p5)]) rfl ?_
      refine z_iconst C (v := 1) dL_decide_19 (by decide) ?_
      exact z_ireturn C dL_decide_20 (by cases hf; rfl)
    · refine z_ite hf (fun c hf => ?_) (fun c hf => ?_)
      · subst c
        refine ⟨[⟨0, 14, 17, 28⟩], ⟨0, 14, 21, 13⟩, [⟨0, 14, 25, 15⟩], "java/lang/IllegalArgumentException", rfl, (by intro z hz; rcases List.mem_cons.mp hz with rfl | hz; exact Or.inr ⟨by decide, "java/lang/IndexOutOfBoundsException", mw_652, by decide⟩; exact absurd hz List.not_mem_nil), by decide, by decide, mw_519, by decide, fun q9 => ?_⟩
        refine z_astore C dL_decide_21 (by decide) (lv' := [(6, .ref q9), (0, .ref p0), (1, .int p1), (2, .int p2), (3, .int p3), (4, .int p4), (5, .ref p5)]) rfl ?_
        refine z_iconst C (v := 2) dL_decide_23 (by decide) ?_
        exact z_ireturn C dL_decide_24 (by cases hf; rfl)
      · refine z_ite hf (fun c hf => ?_) (fun c hf => ?_)
        · subst c
          refine ⟨[⟨0, 14, 17, 28⟩, ⟨0, 14, 21, 13⟩], ⟨0, 14, 25, 15⟩, [], "java/lang/IllegalStateException", rfl, (by intro z hz; rcases List.mem_cons.mp hz with rfl | hz; exact Or.inr ⟨by decide, "java/lang/IndexOutOfBoundsException", mw_652, by decide⟩; rcases List.mem_cons.mp hz with rfl | hz; exact Or.inr ⟨by decide, "java/lang/IllegalArgumentException", mw_519, by decide⟩; exact absurd hz List.not_mem_nil), by decide, by decide, mw_520, by decide, fun q9 => ?_⟩
          refine z_astore C dL_decide_25 (by decide) (lv' := [(6, .ref q9), (0, .ref p0), (1, .int p1), (2, .int p2), (3, .int p3), (4, .int p4), (5, .ref p5)]) rfl ?_
          refine z_iconst C (v := 3) dL_decide_27 (by decide) ?_
          exact z_ireturn C dL_decide_28 (by cases hf; rfl)
        · exact nomatch hf
theorem ML_decide (l : Launch) (hl9 : l.stackTraces = false) (D : va_G) (T : zT) (lo : Nat) (hi : Nat) {h : zH} {p0 : Nat} {p1 : Int32} {p2 : Int32} {p3 : Int32} {p4 : Int32} {p5 : Nat} {v9 : Int32} {h9 : zH} (hf : FL_decide T p0 p1 p2 p3 p4 p5 h = some (v9, h9)) : zMW l yL_decide (.codeWith yL_decide cL_decide 7 (some .int) [(0, 14, 17, 28), (0, 14, 21, 13), (0, 14, 25, 15)] :: TW) ({ frames := 8, cells := 3, slots := 18, locals := 142 } : Room) D T lo [.ref p0, .int p1, .int p2, .int p3, .int p4, .ref p5] hi h (some (.int v9), hi, h9) :=
  z_enterW hl9 (own := RL) (nm := "decide") (lv := [(0, .ref p0), (1, .int p1), (2, .int p2), (3, .int p3), (4, .int p4), (5, .ref p5)]) (by decide +kernel) rfl rfl (Nat.le_of_ble_eq_true rfl) rfl (fun _ _ _ _ _ _ _ _ C => BL_decide C hf)
theorem dL_setLetter_0 : decode cL_setLetter 0 = .ok (.aload 5, 2) := by decide +kernel
theorem dL_setLetter_2 : decode cL_setLetter 2 = .ok (.iconst 0, 1) := by decide +kernel
theorem dL_setLetter_3 : decode cL_setLetter 3 = .ok (.aload_n 0, 1) := by decide +kernel
theorem dL_setLetter_4 : decode cL_setLetter 4 = .ok (.iload_n 1, 1) := by decide +kernel
theorem dL_setLetter_5 : decode cL_setLetter 5 = .ok (.iload_n 2, 1) := by decide +kernel
theorem dL_setLetter_6 : decode cL_setLetter 6 = .ok (.iload_n 3, 1) := by decide +kernel
theorem dL_setLetter_7 : decode cL_setLetter 7 = .ok (.iload 4, 2) := by decide +kernel
theorem dL_setLetter_9 : decode cL_setLetter 9 = .ok (.invokevirtual 57, 3) := by decide +kernel
theorem dL_setLetter_12 : decode cL_setLetter 12 = .ok (.i2l, 1) := by decide +kernel
theorem dL_setLetter_13 : decode cL_setLetter 13 = .ok (.lastore, 1) := by decide +kernel
theorem dL_setLetter_14 : decode cL_setLetter 14 = .ok (.goto 11, 3) := by decide +kernel
theorem dL_setLetter_17 : decode cL_setLetter 17 = .ok (.astore 6, 2) := by decide +kernel
theorem dL_setLetter_19 : decode cL_setLetter 19 = .ok (.iconst 1, 1) := by decide +kernel
theorem dL_setLetter_20 : decode cL_setLetter 20 = .ok (.ireturn, 1) := by decide +kernel
theorem dL_setLetter_21 : decode cL_setLetter 21 = .ok (.astore 6, 2) := by decide +kernel
theorem dL_setLetter_23 : decode cL_setLetter 23 = .ok (.iconst 2, 1) := by decide +kernel
theorem dL_setLetter_24 : decode cL_setLetter 24 = .ok (.ireturn, 1) := by decide +kernel
theorem dL_setLetter_25 : decode cL_setLetter 25 = .ok (.iconst 0, 1) := by decide +kernel
theorem dL_setLetter_26 : decode cL_setLetter 26 = .ok (.ireturn, 1) := by decide +kernel
def FL_setLetter (T : zT) (p0 : Nat) (p1 : Int32) (p2 : Int32) (p3 : Int32) (p4 : Int32) (p5 : Nat) (h : zH) : Option (Int32 × zH) := zbh (FX6_setLetter T p0 p1 p2 p3 p4 h) (fun x2 h3 => (zls T h3 p5 0 x2.toInt64).bind fun h4 => some (0, h4)) (fun E5 h6 => if E5 = "java/lang/IndexOutOfBoundsException" then (some (1, h6)) else (if E5 = "java/lang/IllegalArgumentException" then (some (2, h6)) else (none)))
set_option maxHeartbeats 4000000 in
set_option maxRecDepth 100000 in
theorem BL_setLetter {X : zX} (CW : zCW X cL_setLetter 7 RL "setLetter" (some .int) 8 142 [(0, 14, 17, 28), (0, 14, 21, 13)]) {hi : Nat} {h : zH} {p0 : Nat} {p1 : Int32} {p2 : Int32} {p3 : Int32} {p4 : Int32} {p5 : Nat} {r9 : (Int32 × zH)} (hf : FL_setLetter (xT X) p0 p1 p2 p3 p4 p5 h = some r9) : zW X 7 (zZ X false (some (.int r9.1), hi, r9.2)) 4 24 false hi h 0 [(0, .ref p0), (1, .int p1), (2, .int p2), (3, .int p3), (4, .int p4), (5, .ref p5)] [] := by
  have C := CW.1
  unfold FL_setLetter at hf
  refine z_aload C dL_setLetter_0 5 rfl ?_
  refine z_iconst C (v := 0) dL_setLetter_2 (by decide) ?_
  refine z_aload_n C dL_setLetter_3 0 rfl rfl ?_
  refine z_iload_n C dL_setLetter_4 1 rfl rfl ?_
  refine z_iload_n C dL_setLetter_5 2 rfl rfl ?_
  refine z_iload_n C dL_setLetter_6 3 rfl rfl ?_
  refine z_iload C dL_setLetter_7 4 rfl ?_
  refine z_callVH (kc' := 0) (ks' := 0) CW hf (fun _ _ e => MX6_setLetter (xl X) CW.2.2.2.2 (xD X) (xT X) (xlo X) hi e) (fun _ e => OX6_setLetter e) rfl cw_L_57 yv_X6_setLetter dL_setLetter_9 rfl (by decide) ⟨rfl, rfl⟩ (Nat.le_of_ble_eq_true rfl) (st := [.int 0, .ref p5]) rfl ?_ ?_
  · intro x2 h3 hf
    refine z_i2l C dL_setLetter_12 ?_
    refine z_lastore C dL_setLetter_13 hf (fun h4 hf => ?_)
    refine z_goto (tgt := 25) C dL_setLetter_14 (by decide) ?_
    refine z_iconst C (v := 0) dL_setLetter_25 (by decide) ?_
    exact z_ireturn C dL_setLetter_26 (by cases hf; rfl)
  · intro E5 h6 hf
    refine z_ite hf (fun c hf => ?_) (fun c hf => ?_)
    · subst c
      refine ⟨[], ⟨0, 14, 17, 28⟩, [⟨0, 14, 21, 13⟩], "java/lang/IndexOutOfBoundsException", rfl, (fun _ hz => nomatch hz), by decide, by decide, mw_652, by decide, fun q9 => ?_⟩
      refine z_astore C dL_setLetter_17 (by decide) (lv' := [(6, .ref q9), (0, .ref p0), (1, .int p1), (2, .int p2), (3, .int p3), (4, .int p4), (5, .ref p5)]) rfl ?_
      refine z_iconst C (v := 1) dL_setLetter_19 (by decide) ?_
      exact z_ireturn C dL_setLetter_20 (by cases hf; rfl)
    · refine z_ite hf (fun c hf => ?_) (fun c hf => ?_)
      · subst c
        refine ⟨[⟨0, 14, 17, 28⟩], ⟨0, 14, 21, 13⟩, [], "java/lang/IllegalArgumentException", rfl, (by intro z hz; rcases List.mem_cons.mp hz with rfl | hz; exact Or.inr ⟨by decide, "java/lang/IndexOutOfBoundsException", mw_652, by decide⟩; exact absurd hz List.not_mem_nil), by decide, by decide, mw_519, by decide, fun q9 => ?_⟩
        refine z_astore C dL_setLetter_21 (by decide) (lv' := [(6, .ref q9), (0, .ref p0), (1, .int p1), (2, .int p2), (3, .int p3), (4, .int p4), (5, .ref p5)]) rfl ?_
        refine z_iconst C (v := 2) dL_setLetter_23 (by decide) ?_
        exact z_ireturn C dL_setLetter_24 (by cases hf; rfl)
      · exact nomatch hf
theorem ML_setLetter (l : Launch) (hl9 : l.stackTraces = false) (D : va_G) (T : zT) (lo : Nat) (hi : Nat) {h : zH} {p0 : Nat} {p1 : Int32} {p2 : Int32} {p3 : Int32} {p4 : Int32} {p5 : Nat} {v9 : Int32} {h9 : zH} (hf : FL_setLetter T p0 p1 p2 p3 p4 p5 h = some (v9, h9)) : zMW l yL_setLetter (.codeWith yL_setLetter cL_setLetter 7 (some .int) [(0, 14, 17, 28), (0, 14, 21, 13)] :: TW) ({ frames := 8, cells := 4, slots := 24, locals := 142 } : Room) D T lo [.ref p0, .int p1, .int p2, .int p3, .int p4, .ref p5] hi h (some (.int v9), hi, h9) :=
  z_enterW hl9 (own := RL) (nm := "setLetter") (lv := [(0, .ref p0), (1, .int p1), (2, .int p2), (3, .int p3), (4, .int p4), (5, .ref p5)]) (by decide +kernel) rfl rfl (Nat.le_of_ble_eq_true rfl) rfl (fun _ _ _ _ _ _ _ _ C => BL_setLetter C hf)
theorem dL_setMargin_0 : decode cL_setMargin 0 = .ok (.aload_n 2, 1) := by decide +kernel
theorem dL_setMargin_1 : decode cL_setMargin 1 = .ok (.iconst 0, 1) := by decide +kernel
theorem dL_setMargin_2 : decode cL_setMargin 2 = .ok (.aload_n 0, 1) := by decide +kernel
theorem dL_setMargin_3 : decode cL_setMargin 3 = .ok (.iload_n 1, 1) := by decide +kernel
theorem dL_setMargin_4 : decode cL_setMargin 4 = .ok (.invokevirtual 60, 3) := by decide +kernel
theorem dL_setMargin_7 : decode cL_setMargin 7 = .ok (.i2l, 1) := by decide +kernel
theorem dL_setMargin_8 : decode cL_setMargin 8 = .ok (.lastore, 1) := by decide +kernel
theorem dL_setMargin_9 : decode cL_setMargin 9 = .ok (.goto 6, 3) := by decide +kernel
theorem dL_setMargin_12 : decode cL_setMargin 12 = .ok (.astore_n 3, 1) := by decide +kernel
theorem dL_setMargin_13 : decode cL_setMargin 13 = .ok (.iconst 1, 1) := by decide +kernel
theorem dL_setMargin_14 : decode cL_setMargin 14 = .ok (.ireturn, 1) := by decide +kernel
theorem dL_setMargin_15 : decode cL_setMargin 15 = .ok (.iconst 0, 1) := by decide +kernel
theorem dL_setMargin_16 : decode cL_setMargin 16 = .ok (.ireturn, 1) := by decide +kernel
def FL_setMargin (T : zT) (p0 : Nat) (p1 : Int32) (p2 : Nat) (h : zH) : Option (Int32 × zH) := zbh (FX6_setMargin T p0 p1 h) (fun x2 h3 => (zls T h3 p2 0 x2.toInt64).bind fun h4 => some (0, h4)) (fun E5 h6 => if E5 = "java/lang/IllegalArgumentException" then (some (1, h6)) else (none))
set_option maxHeartbeats 4000000 in
set_option maxRecDepth 100000 in
theorem BL_setMargin {X : zX} (CW : zCW X cL_setMargin 4 RL "setMargin" (some .int) 8 134 [(0, 9, 12, 13)]) {hi : Nat} {h : zH} {p0 : Nat} {p1 : Int32} {p2 : Nat} {r9 : (Int32 × zH)} (hf : FL_setMargin (xT X) p0 p1 p2 h = some r9) : zW X 4 (zZ X false (some (.int r9.1), hi, r9.2)) 1 6 false hi h 0 [(0, .ref p0), (1, .int p1), (2, .ref p2)] [] := by
  have C := CW.1
  unfold FL_setMargin at hf
  refine z_aload_n C dL_setMargin_0 2 rfl rfl ?_
  refine z_iconst C (v := 0) dL_setMargin_1 (by decide) ?_
  refine z_aload_n C dL_setMargin_2 0 rfl rfl ?_
  refine z_iload_n C dL_setMargin_3 1 rfl rfl ?_
  refine z_callVH (kc' := 0) (ks' := 0) CW hf (fun _ _ e => MX6_setMargin (xl X) CW.2.2.2.2 (xD X) (xT X) (xlo X) hi e) (fun _ e => OX6_setMargin e) rfl cw_L_60 yv_X6_setMargin dL_setMargin_4 rfl (by decide) ⟨rfl, rfl⟩ (Nat.le_of_ble_eq_true rfl) (st := [.int 0, .ref p2]) rfl ?_ ?_
  · intro x2 h3 hf
    refine z_i2l C dL_setMargin_7 ?_
    refine z_lastore C dL_setMargin_8 hf (fun h4 hf => ?_)
    refine z_goto (tgt := 15) C dL_setMargin_9 (by decide) ?_
    refine z_iconst C (v := 0) dL_setMargin_15 (by decide) ?_
    exact z_ireturn C dL_setMargin_16 (by cases hf; rfl)
  · intro E5 h6 hf
    refine z_ite hf (fun c hf => ?_) (fun c hf => ?_)
    · subst c
      refine ⟨[], ⟨0, 9, 12, 13⟩, [], "java/lang/IllegalArgumentException", rfl, (fun _ hz => nomatch hz), by decide, by decide, mw_519, by decide, fun q9 => ?_⟩
      refine z_astore_n C dL_setMargin_12 rfl (by decide) (lv' := [(3, .ref q9), (0, .ref p0), (1, .int p1), (2, .ref p2)]) rfl ?_
      refine z_iconst C (v := 1) dL_setMargin_13 (by decide) ?_
      exact z_ireturn C dL_setMargin_14 (by cases hf; rfl)
    · exact nomatch hf
theorem ML_setMargin (l : Launch) (hl9 : l.stackTraces = false) (D : va_G) (T : zT) (lo : Nat) (hi : Nat) {h : zH} {p0 : Nat} {p1 : Int32} {p2 : Nat} {v9 : Int32} {h9 : zH} (hf : FL_setMargin T p0 p1 p2 h = some (v9, h9)) : zMW l yL_setMargin (.codeWith yL_setMargin cL_setMargin 4 (some .int) [(0, 9, 12, 13)] :: TW) ({ frames := 8, cells := 1, slots := 6, locals := 134 } : Room) D T lo [.ref p0, .int p1, .ref p2] hi h (some (.int v9), hi, h9) :=
  z_enterW hl9 (own := RL) (nm := "setMargin") (lv := [(0, .ref p0), (1, .int p1), (2, .ref p2)]) (by decide +kernel) rfl rfl (Nat.le_of_ble_eq_true rfl) rfl (fun _ _ _ _ _ _ _ _ C => BL_setMargin C hf)
theorem dL_setGap_0 : decode cL_setGap 0 = .ok (.aload_n 2, 1) := by decide +kernel
theorem dL_setGap_1 : decode cL_setGap 1 = .ok (.iconst 0, 1) := by decide +kernel
theorem dL_setGap_2 : decode cL_setGap 2 = .ok (.aload_n 0, 1) := by decide +kernel
theorem dL_setGap_3 : decode cL_setGap 3 = .ok (.iload_n 1, 1) := by decide +kernel
theorem dL_setGap_4 : decode cL_setGap 4 = .ok (.invokevirtual 63, 3) := by decide +kernel
theorem dL_setGap_7 : decode cL_setGap 7 = .ok (.i2l, 1) := by decide +kernel
theorem dL_setGap_8 : decode cL_setGap 8 = .ok (.lastore, 1) := by decide +kernel
theorem dL_setGap_9 : decode cL_setGap 9 = .ok (.goto 6, 3) := by decide +kernel
theorem dL_setGap_12 : decode cL_setGap 12 = .ok (.astore_n 3, 1) := by decide +kernel
theorem dL_setGap_13 : decode cL_setGap 13 = .ok (.iconst 1, 1) := by decide +kernel
theorem dL_setGap_14 : decode cL_setGap 14 = .ok (.ireturn, 1) := by decide +kernel
theorem dL_setGap_15 : decode cL_setGap 15 = .ok (.iconst 0, 1) := by decide +kernel
theorem dL_setGap_16 : decode cL_setGap 16 = .ok (.ireturn, 1) := by decide +kernel
def FL_setGap (T : zT) (p0 : Nat) (p1 : Int32) (p2 : Nat) (h : zH) : Option (Int32 × zH) := zbh (FX6_setGap T p0 p1 h) (fun x2 h3 => (zls T h3 p2 0 x2.toInt64).bind fun h4 => some (0, h4)) (fun E5 h6 => if E5 = "java/lang/IllegalArgumentException" then (some (1, h6)) else (none))
set_option maxHeartbeats 4000000 in
set_option maxRecDepth 100000 in
theorem BL_setGap {X : zX} (CW : zCW X cL_setGap 4 RL "setGap" (some .int) 8 134 [(0, 9, 12, 13)]) {hi : Nat} {h : zH} {p0 : Nat} {p1 : Int32} {p2 : Nat} {r9 : (Int32 × zH)} (hf : FL_setGap (xT X) p0 p1 p2 h = some r9) : zW X 4 (zZ X false (some (.int r9.1), hi, r9.2)) 1 6 false hi h 0 [(0, .ref p0), (1, .int p1), (2, .ref p2)] [] := by
  have C := CW.1
  unfold FL_setGap at hf
  refine z_aload_n C dL_setGap_0 2 rfl rfl ?_
  refine z_iconst C (v := 0) dL_setGap_1 (by decide) ?_
  refine z_aload_n C dL_setGap_2 0 rfl rfl ?_
  refine z_iload_n C dL_setGap_3 1 rfl rfl ?_
  refine z_callVH (kc' := 0) (ks' := 0) CW hf (fun _ _ e => MX6_setGap (xl X) CW.2.2.2.2 (xD X) (xT X) (xlo X) hi e) (fun _ e => OX6_setGap e) rfl cw_L_63 yv_X6_setGap dL_setGap_4 rfl (by decide) ⟨rfl, rfl⟩ (Nat.le_of_ble_eq_true rfl) (st := [.int 0, .ref p2]) rfl ?_ ?_
  · intro x2 h3 hf
    refine z_i2l C dL_setGap_7 ?_
    refine z_lastore C dL_setGap_8 hf (fun h4 hf => ?_)
    refine z_goto (tgt := 15) C dL_setGap_9 (by decide) ?_
    refine z_iconst C (v := 0) dL_setGap_15 (by decide) ?_
    exact z_ireturn C dL_setGap_16 (by cases hf; rfl)
  · intro E5 h6 hf
    refine z_ite hf (fun c hf => ?_) (fun c hf => ?_)
    · subst c
      refine ⟨[], ⟨0, 9, 12, 13⟩, [], "java/lang/IllegalArgumentException", rfl, (fun _ hz => nomatch hz), by decide, by decide, mw_519, by decide, fun q9 => ?_⟩
      refine z_astore_n C dL_setGap_12 rfl (by decide) (lv' := [(3, .ref q9), (0, .ref p0), (1, .int p1), (2, .ref p2)]) rfl ?_
      refine z_iconst C (v := 1) dL_setGap_13 (by decide) ?_
      exact z_ireturn C dL_setGap_14 (by cases hf; rfl)
    · exact nomatch hf
theorem ML_setGap (l : Launch) (hl9 : l.stackTraces = false) (D : va_G) (T : zT) (lo : Nat) (hi : Nat) {h : zH} {p0 : Nat} {p1 : Int32} {p2 : Nat} {v9 : Int32} {h9 : zH} (hf : FL_setGap T p0 p1 p2 h = some (v9, h9)) : zMW l yL_setGap (.codeWith yL_setGap cL_setGap 4 (some .int) [(0, 9, 12, 13)] :: TW) ({ frames := 8, cells := 1, slots := 6, locals := 134 } : Room) D T lo [.ref p0, .int p1, .ref p2] hi h (some (.int v9), hi, h9) :=
  z_enterW hl9 (own := RL) (nm := "setGap") (lv := [(0, .ref p0), (1, .int p1), (2, .ref p2)]) (by decide +kernel) rfl rfl (Nat.le_of_ble_eq_true rfl) rfl (fun _ _ _ _ _ _ _ _ C => BL_setGap C hf)
theorem dL_undo_0 : decode cL_undo 0 = .ok (.aload_n 1, 1) := by decide +kernel
theorem dL_undo_1 : decode cL_undo 1 = .ok (.iconst 0, 1) := by decide +kernel
theorem dL_undo_2 : decode cL_undo 2 = .ok (.aload_n 0, 1) := by decide +kernel
theorem dL_undo_3 : decode cL_undo 3 = .ok (.invokevirtual 66, 3) := by decide +kernel
theorem dL_undo_6 : decode cL_undo 6 = .ok (.i2l, 1) := by decide +kernel
theorem dL_undo_7 : decode cL_undo 7 = .ok (.lastore, 1) := by decide +kernel
theorem dL_undo_8 : decode cL_undo 8 = .ok (.goto 6, 3) := by decide +kernel
theorem dL_undo_11 : decode cL_undo 11 = .ok (.astore_n 2, 1) := by decide +kernel
theorem dL_undo_12 : decode cL_undo 12 = .ok (.iconst 1, 1) := by decide +kernel
theorem dL_undo_13 : decode cL_undo 13 = .ok (.ireturn, 1) := by decide +kernel
theorem dL_undo_14 : decode cL_undo 14 = .ok (.iconst 0, 1) := by decide +kernel
theorem dL_undo_15 : decode cL_undo 15 = .ok (.ireturn, 1) := by decide +kernel
def FL_undo (T : zT) (p0 : Nat) (p1 : Nat) (h : zH) : Option (Int32 × zH) := zbh (FX6_undo T p0 h) (fun x2 h3 => (zls T h3 p1 0 x2.toInt64).bind fun h4 => some (0, h4)) (fun E5 h6 => if E5 = "java/lang/IllegalStateException" then (some (1, h6)) else (none))
set_option maxHeartbeats 4000000 in
set_option maxRecDepth 100000 in
theorem BL_undo {X : zX} (CW : zCW X cL_undo 3 RL "undo" (some .int) 7 132 [(0, 8, 11, 15)]) {hi : Nat} {h : zH} {p0 : Nat} {p1 : Nat} {r9 : (Int32 × zH)} (hf : FL_undo (xT X) p0 p1 h = some r9) : zW X 3 (zZ X false (some (.int r9.1), hi, r9.2)) 1 6 false hi h 0 [(0, .ref p0), (1, .ref p1)] [] := by
  have C := CW.1
  unfold FL_undo at hf
  refine z_aload_n C dL_undo_0 1 rfl rfl ?_
  refine z_iconst C (v := 0) dL_undo_1 (by decide) ?_
  refine z_aload_n C dL_undo_2 0 rfl rfl ?_
  refine z_callVH (kc' := 0) (ks' := 0) CW hf (fun _ _ e => MX6_undo (xl X) CW.2.2.2.2 (xD X) (xT X) (xlo X) hi e) (fun _ e => OX6_undo e) rfl cw_L_66 yv_X6_undo dL_undo_3 rfl (by decide) ⟨rfl, rfl⟩ (Nat.le_of_ble_eq_true rfl) (st := [.int 0, .ref p1]) rfl ?_ ?_
  · intro x2 h3 hf
    refine z_i2l C dL_undo_6 ?_
    refine z_lastore C dL_undo_7 hf (fun h4 hf => ?_)
    refine z_goto (tgt := 14) C dL_undo_8 (by decide) ?_
    refine z_iconst C (v := 0) dL_undo_14 (by decide) ?_
    exact z_ireturn C dL_undo_15 (by cases hf; rfl)
  · intro E5 h6 hf
    refine z_ite hf (fun c hf => ?_) (fun c hf => ?_)
    · subst c
      refine ⟨[], ⟨0, 8, 11, 15⟩, [], "java/lang/IllegalStateException", rfl, (fun _ hz => nomatch hz), by decide, by decide, mw_520, by decide, fun q9 => ?_⟩
      refine z_astore_n C dL_undo_11 rfl (by decide) (lv' := [(2, .ref q9), (0, .ref p0), (1, .ref p1)]) rfl ?_
      refine z_iconst C (v := 1) dL_undo_12 (by decide) ?_
      exact z_ireturn C dL_undo_13 (by cases hf; rfl)
    · exact nomatch hf
theorem ML_undo (l : Launch) (hl9 : l.stackTraces = false) (D : va_G) (T : zT) (lo : Nat) (hi : Nat) {h : zH} {p0 : Nat} {p1 : Nat} {v9 : Int32} {h9 : zH} (hf : FL_undo T p0 p1 h = some (v9, h9)) : zMW l yL_undo (.codeWith yL_undo cL_undo 3 (some .int) [(0, 8, 11, 15)] :: TW) ({ frames := 7, cells := 1, slots := 6, locals := 132 } : Room) D T lo [.ref p0, .ref p1] hi h (some (.int v9), hi, h9) :=
  z_enterW hl9 (own := RL) (nm := "undo") (lv := [(0, .ref p0), (1, .ref p1)]) (by decide +kernel) rfl rfl (Nat.le_of_ble_eq_true rfl) rfl (fun _ _ _ _ _ _ _ _ C => BL_undo C hf)
theorem dL_find_0 : decode cL_find 0 = .ok (.aload 5, 2) := by decide +kernel
theorem dL_find_2 : decode cL_find 2 = .ok (.iconst 0, 1) := by decide +kernel
theorem dL_find_3 : decode cL_find 3 = .ok (.aload_n 0, 1) := by decide +kernel
theorem dL_find_4 : decode cL_find 4 = .ok (.iload_n 1, 1) := by decide +kernel
theorem dL_find_5 : decode cL_find 5 = .ok (.iload_n 2, 1) := by decide +kernel
theorem dL_find_6 : decode cL_find 6 = .ok (.lload_n 3, 1) := by decide +kernel
theorem dL_find_7 : decode cL_find 7 = .ok (.invokevirtual 69, 3) := by decide +kernel
theorem dL_find_10 : decode cL_find 10 = .ok (.i2l, 1) := by decide +kernel
theorem dL_find_11 : decode cL_find 11 = .ok (.lastore, 1) := by decide +kernel
theorem dL_find_12 : decode cL_find 12 = .ok (.goto 11, 3) := by decide +kernel
theorem dL_find_15 : decode cL_find 15 = .ok (.astore 6, 2) := by decide +kernel
theorem dL_find_17 : decode cL_find 17 = .ok (.iconst 1, 1) := by decide +kernel
theorem dL_find_18 : decode cL_find 18 = .ok (.ireturn, 1) := by decide +kernel
theorem dL_find_19 : decode cL_find 19 = .ok (.astore 6, 2) := by decide +kernel
theorem dL_find_21 : decode cL_find 21 = .ok (.iconst 2, 1) := by decide +kernel
theorem dL_find_22 : decode cL_find 22 = .ok (.ireturn, 1) := by decide +kernel
theorem dL_find_23 : decode cL_find 23 = .ok (.iconst 0, 1) := by decide +kernel
theorem dL_find_24 : decode cL_find 24 = .ok (.ireturn, 1) := by decide +kernel
def FL_find (T : zT) (p0 : Nat) (p1 : Int32) (p2 : Int32) (p3 : Int64) (p4 : Nat) (h : zH) : Option (Int32 × zH) := zbh (FX6_find T p0 p1 p2 p3 h) (fun x2 h3 => (zls T h3 p4 0 x2.toInt64).bind fun h4 => some (0, h4)) (fun E5 h6 => if E5 = "java/lang/IndexOutOfBoundsException" then (some (1, h6)) else (if E5 = "java/lang/IllegalArgumentException" then (some (2, h6)) else (none)))
set_option maxHeartbeats 4000000 in
set_option maxRecDepth 100000 in
theorem BL_find {X : zX} (CW : zCW X cL_find 7 RL "find" (some .int) 8 173 [(0, 12, 15, 28), (0, 12, 19, 13)]) {hi : Nat} {h : zH} {p0 : Nat} {p1 : Int32} {p2 : Int32} {p3 : Int64} {p4 : Nat} {r9 : (Int32 × zH)} (hf : FL_find (xT X) p0 p1 p2 p3 p4 h = some r9) : zW X 7 (zZ X false (some (.int r9.1), hi, r9.2)) 3 18 false hi h 0 [(0, .ref p0), (1, .int p1), (2, .int p2), (3, .long p3), (5, .ref p4)] [] := by
  have C := CW.1
  unfold FL_find at hf
  refine z_aload C dL_find_0 4 rfl ?_
  refine z_iconst C (v := 0) dL_find_2 (by decide) ?_
  refine z_aload_n C dL_find_3 0 rfl rfl ?_
  refine z_iload_n C dL_find_4 1 rfl rfl ?_
  refine z_iload_n C dL_find_5 2 rfl rfl ?_
  refine z_lload_n C dL_find_6 3 rfl rfl ?_
  refine z_callVH (kc' := 0) (ks' := 0) CW hf (fun _ _ e => MX6_find (xl X) CW.2.2.2.2 (xD X) (xT X) (xlo X) hi e) (fun _ e => OX6_find e) rfl cw_L_69 yv_X6_find dL_find_7 rfl (by decide) ⟨rfl, rfl⟩ (Nat.le_of_ble_eq_true rfl) (st := [.int 0, .ref p4]) rfl ?_ ?_
  · intro x2 h3 hf
    refine z_i2l C dL_find_10 ?_
    refine z_lastore C dL_find_11 hf (fun h4 hf => ?_)
    refine z_goto (tgt := 23) C dL_find_12 (by decide) ?_
    refine z_iconst C (v := 0) dL_find_23 (by decide) ?_
    exact z_ireturn C dL_find_24 (by cases hf; rfl)
  · intro E5 h6 hf
    refine z_ite hf (fun c hf => ?_) (fun c hf => ?_)
    · subst c
      refine ⟨[], ⟨0, 12, 15, 28⟩, [⟨0, 12, 19, 13⟩], "java/lang/IndexOutOfBoundsException", rfl, (fun _ hz => nomatch hz), by decide, by decide, mw_652, by decide, fun q9 => ?_⟩
      refine z_astore C dL_find_15 (by decide) (lv' := [(6, .ref q9), (0, .ref p0), (1, .int p1), (2, .int p2), (3, .long p3), (5, .ref p4)]) rfl ?_
      refine z_iconst C (v := 1) dL_find_17 (by decide) ?_
      exact z_ireturn C dL_find_18 (by cases hf; rfl)
    · refine z_ite hf (fun c hf => ?_) (fun c hf => ?_)
      · subst c
        refine ⟨[⟨0, 12, 15, 28⟩], ⟨0, 12, 19, 13⟩, [], "java/lang/IllegalArgumentException", rfl, (by intro z hz; rcases List.mem_cons.mp hz with rfl | hz; exact Or.inr ⟨by decide, "java/lang/IndexOutOfBoundsException", mw_652, by decide⟩; exact absurd hz List.not_mem_nil), by decide, by decide, mw_519, by decide, fun q9 => ?_⟩
        refine z_astore C dL_find_19 (by decide) (lv' := [(6, .ref q9), (0, .ref p0), (1, .int p1), (2, .int p2), (3, .long p3), (5, .ref p4)]) rfl ?_
        refine z_iconst C (v := 2) dL_find_21 (by decide) ?_
        exact z_ireturn C dL_find_22 (by cases hf; rfl)
      · exact nomatch hf
theorem ML_find (l : Launch) (hl9 : l.stackTraces = false) (D : va_G) (T : zT) (lo : Nat) (hi : Nat) {h : zH} {p0 : Nat} {p1 : Int32} {p2 : Int32} {p3 : Int64} {p4 : Nat} {v9 : Int32} {h9 : zH} (hf : FL_find T p0 p1 p2 p3 p4 h = some (v9, h9)) : zMW l yL_find (.codeWith yL_find cL_find 7 (some .int) [(0, 12, 15, 28), (0, 12, 19, 13)] :: TW) ({ frames := 8, cells := 3, slots := 18, locals := 173 } : Room) D T lo [.ref p0, .int p1, .int p2, .long p3, .ref p4] hi h (some (.int v9), hi, h9) :=
  z_enterW hl9 (own := RL) (nm := "find") (lv := [(0, .ref p0), (1, .int p1), (2, .int p2), (3, .long p3), (5, .ref p4)]) (by decide +kernel) rfl rfl (Nat.le_of_ble_eq_true rfl) rfl (fun _ _ _ _ _ _ _ _ C => BL_find C hf)
theorem dL_count_0 : decode cL_count 0 = .ok (.aload_n 3, 1) := by decide +kernel
theorem dL_count_1 : decode cL_count 1 = .ok (.iconst 0, 1) := by decide +kernel
theorem dL_count_2 : decode cL_count 2 = .ok (.aload_n 0, 1) := by decide +kernel
theorem dL_count_3 : decode cL_count 3 = .ok (.iload_n 1, 1) := by decide +kernel
theorem dL_count_4 : decode cL_count 4 = .ok (.iload_n 2, 1) := by decide +kernel
theorem dL_count_5 : decode cL_count 5 = .ok (.invokevirtual 73, 3) := by decide +kernel
theorem dL_count_8 : decode cL_count 8 = .ok (.i2l, 1) := by decide +kernel
theorem dL_count_9 : decode cL_count 9 = .ok (.lastore, 1) := by decide +kernel
theorem dL_count_10 : decode cL_count 10 = .ok (.goto 11, 3) := by decide +kernel
theorem dL_count_13 : decode cL_count 13 = .ok (.astore 4, 2) := by decide +kernel
theorem dL_count_15 : decode cL_count 15 = .ok (.iconst 1, 1) := by decide +kernel
theorem dL_count_16 : decode cL_count 16 = .ok (.ireturn, 1) := by decide +kernel
theorem dL_count_17 : decode cL_count 17 = .ok (.astore 4, 2) := by decide +kernel
theorem dL_count_19 : decode cL_count 19 = .ok (.iconst 2, 1) := by decide +kernel
theorem dL_count_20 : decode cL_count 20 = .ok (.ireturn, 1) := by decide +kernel
theorem dL_count_21 : decode cL_count 21 = .ok (.iconst 0, 1) := by decide +kernel
theorem dL_count_22 : decode cL_count 22 = .ok (.ireturn, 1) := by decide +kernel
def FL_count (T : zT) (p0 : Nat) (p1 : Int32) (p2 : Int32) (p3 : Nat) (h : zH) : Option (Int32 × zH) := zbh (FX6_count T p0 p1 p2 h) (fun x2 h3 => (zls T h3 p3 0 x2.toInt64).bind fun h4 => some (0, h4)) (fun E5 h6 => if E5 = "java/lang/IndexOutOfBoundsException" then (some (1, h6)) else (if E5 = "java/lang/IllegalArgumentException" then (some (2, h6)) else (none)))
set_option maxHeartbeats 4000000 in
set_option maxRecDepth 100000 in
theorem BL_count {X : zX} (CW : zCW X cL_count 5 RL "count" (some .int) 8 170 [(0, 10, 13, 28), (0, 10, 17, 13)]) {hi : Nat} {h : zH} {p0 : Nat} {p1 : Int32} {p2 : Int32} {p3 : Nat} {r9 : (Int32 × zH)} (hf : FL_count (xT X) p0 p1 p2 p3 h = some r9) : zW X 5 (zZ X false (some (.int r9.1), hi, r9.2)) 2 12 false hi h 0 [(0, .ref p0), (1, .int p1), (2, .int p2), (3, .ref p3)] [] := by
  have C := CW.1
  unfold FL_count at hf
  refine z_aload_n C dL_count_0 3 rfl rfl ?_
  refine z_iconst C (v := 0) dL_count_1 (by decide) ?_
  refine z_aload_n C dL_count_2 0 rfl rfl ?_
  refine z_iload_n C dL_count_3 1 rfl rfl ?_
  refine z_iload_n C dL_count_4 2 rfl rfl ?_
  refine z_callVH (kc' := 0) (ks' := 0) CW hf (fun _ _ e => MX6_count (xl X) CW.2.2.2.2 (xD X) (xT X) (xlo X) hi e) (fun _ e => OX6_count e) rfl cw_L_73 yv_X6_count dL_count_5 rfl (by decide) ⟨rfl, rfl⟩ (Nat.le_of_ble_eq_true rfl) (st := [.int 0, .ref p3]) rfl ?_ ?_
  · intro x2 h3 hf
    refine z_i2l C dL_count_8 ?_
    refine z_lastore C dL_count_9 hf (fun h4 hf => ?_)
    refine z_goto (tgt := 21) C dL_count_10 (by decide) ?_
    refine z_iconst C (v := 0) dL_count_21 (by decide) ?_
    exact z_ireturn C dL_count_22 (by cases hf; rfl)
  · intro E5 h6 hf
    refine z_ite hf (fun c hf => ?_) (fun c hf => ?_)
    · subst c
      refine ⟨[], ⟨0, 10, 13, 28⟩, [⟨0, 10, 17, 13⟩], "java/lang/IndexOutOfBoundsException", rfl, (fun _ hz => nomatch hz), by decide, by decide, mw_652, by decide, fun q9 => ?_⟩
      refine z_astore C dL_count_13 (by decide) (lv' := [(4, .ref q9), (0, .ref p0), (1, .int p1), (2, .int p2), (3, .ref p3)]) rfl ?_
      refine z_iconst C (v := 1) dL_count_15 (by decide) ?_
      exact z_ireturn C dL_count_16 (by cases hf; rfl)
    · refine z_ite hf (fun c hf => ?_) (fun c hf => ?_)
      · subst c
        refine ⟨[⟨0, 10, 13, 28⟩], ⟨0, 10, 17, 13⟩, [], "java/lang/IllegalArgumentException", rfl, (by intro z hz; rcases List.mem_cons.mp hz with rfl | hz; exact Or.inr ⟨by decide, "java/lang/IndexOutOfBoundsException", mw_652, by decide⟩; exact absurd hz List.not_mem_nil), by decide, by decide, mw_519, by decide, fun q9 => ?_⟩
        refine z_astore C dL_count_17 (by decide) (lv' := [(4, .ref q9), (0, .ref p0), (1, .int p1), (2, .int p2), (3, .ref p3)]) rfl ?_
        refine z_iconst C (v := 2) dL_count_19 (by decide) ?_
        exact z_ireturn C dL_count_20 (by cases hf; rfl)
      · exact nomatch hf
theorem ML_count (l : Launch) (hl9 : l.stackTraces = false) (D : va_G) (T : zT) (lo : Nat) (hi : Nat) {h : zH} {p0 : Nat} {p1 : Int32} {p2 : Int32} {p3 : Nat} {v9 : Int32} {h9 : zH} (hf : FL_count T p0 p1 p2 p3 h = some (v9, h9)) : zMW l yL_count (.codeWith yL_count cL_count 5 (some .int) [(0, 10, 13, 28), (0, 10, 17, 13)] :: TW) ({ frames := 8, cells := 2, slots := 12, locals := 170 } : Room) D T lo [.ref p0, .int p1, .int p2, .ref p3] hi h (some (.int v9), hi, h9) :=
  z_enterW hl9 (own := RL) (nm := "count") (lv := [(0, .ref p0), (1, .int p1), (2, .int p2), (3, .ref p3)]) (by decide +kernel) rfl rfl (Nat.le_of_ble_eq_true rfl) rfl (fun _ _ _ _ _ _ _ _ C => BL_count C hf)
theorem dL_bestPen_0 : decode cL_bestPen 0 = .ok (.aload_n 2, 1) := by decide +kernel
theorem dL_bestPen_1 : decode cL_bestPen 1 = .ok (.iconst 0, 1) := by decide +kernel
theorem dL_bestPen_2 : decode cL_bestPen 2 = .ok (.aload_n 0, 1) := by decide +kernel
theorem dL_bestPen_3 : decode cL_bestPen 3 = .ok (.iload_n 1, 1) := by decide +kernel
theorem dL_bestPen_4 : decode cL_bestPen 4 = .ok (.invokevirtual 76, 3) := by decide +kernel
theorem dL_bestPen_7 : decode cL_bestPen 7 = .ok (.i2l, 1) := by decide +kernel
theorem dL_bestPen_8 : decode cL_bestPen 8 = .ok (.lastore, 1) := by decide +kernel
theorem dL_bestPen_9 : decode cL_bestPen 9 = .ok (.goto 6, 3) := by decide +kernel
theorem dL_bestPen_12 : decode cL_bestPen 12 = .ok (.astore_n 3, 1) := by decide +kernel
theorem dL_bestPen_13 : decode cL_bestPen 13 = .ok (.iconst 1, 1) := by decide +kernel
theorem dL_bestPen_14 : decode cL_bestPen 14 = .ok (.ireturn, 1) := by decide +kernel
theorem dL_bestPen_15 : decode cL_bestPen 15 = .ok (.iconst 0, 1) := by decide +kernel
theorem dL_bestPen_16 : decode cL_bestPen 16 = .ok (.ireturn, 1) := by decide +kernel
def FL_bestPen (T : zT) (p0 : Nat) (p1 : Int32) (p2 : Nat) (h : zH) : Option (Int32 × zH) := zbh (FX6_bestPen T p0 p1 h) (fun x2 h3 => (zls T h3 p2 0 x2.toInt64).bind fun h4 => some (0, h4)) (fun E5 h6 => if E5 = "java/lang/IndexOutOfBoundsException" then (some (1, h6)) else (none))
set_option maxHeartbeats 4000000 in
set_option maxRecDepth 100000 in
theorem BL_bestPen {X : zX} (CW : zCW X cL_bestPen 4 RL "bestPen" (some .int) 8 144 [(0, 9, 12, 28)]) {hi : Nat} {h : zH} {p0 : Nat} {p1 : Int32} {p2 : Nat} {r9 : (Int32 × zH)} (hf : FL_bestPen (xT X) p0 p1 p2 h = some r9) : zW X 4 (zZ X false (some (.int r9.1), hi, r9.2)) 1 6 false hi h 0 [(0, .ref p0), (1, .int p1), (2, .ref p2)] [] := by
  have C := CW.1
  unfold FL_bestPen at hf
  refine z_aload_n C dL_bestPen_0 2 rfl rfl ?_
  refine z_iconst C (v := 0) dL_bestPen_1 (by decide) ?_
  refine z_aload_n C dL_bestPen_2 0 rfl rfl ?_
  refine z_iload_n C dL_bestPen_3 1 rfl rfl ?_
  refine z_callVH (kc' := 0) (ks' := 0) CW hf (fun _ _ e => MX6_bestPen (xl X) CW.2.2.2.2 (xD X) (xT X) (xlo X) hi e) (fun _ e => OX6_bestPen e) rfl cw_L_76 yv_X6_bestPen dL_bestPen_4 rfl (by decide) ⟨rfl, rfl⟩ (Nat.le_of_ble_eq_true rfl) (st := [.int 0, .ref p2]) rfl ?_ ?_
  · intro x2 h3 hf
    refine z_i2l C dL_bestPen_7 ?_
    refine z_lastore C dL_bestPen_8 hf (fun h4 hf => ?_)
    refine z_goto (tgt := 15) C dL_bestPen_9 (by decide) ?_
    refine z_iconst C (v := 0) dL_bestPen_15 (by decide) ?_
    exact z_ireturn C dL_bestPen_16 (by cases hf; rfl)
  · intro E5 h6 hf
    refine z_ite hf (fun c hf => ?_) (fun c hf => ?_)
    · subst c
      refine ⟨[], ⟨0, 9, 12, 28⟩, [], "java/lang/IndexOutOfBoundsException", rfl, (fun _ hz => nomatch hz), by decide, by decide, mw_652, by decide, fun q9 => ?_⟩
      refine z_astore_n C dL_bestPen_12 rfl (by decide) (lv' := [(3, .ref q9), (0, .ref p0), (1, .int p1), (2, .ref p2)]) rfl ?_
      refine z_iconst C (v := 1) dL_bestPen_13 (by decide) ?_
      exact z_ireturn C dL_bestPen_14 (by cases hf; rfl)
    · exact nomatch hf
theorem ML_bestPen (l : Launch) (hl9 : l.stackTraces = false) (D : va_G) (T : zT) (lo : Nat) (hi : Nat) {h : zH} {p0 : Nat} {p1 : Int32} {p2 : Nat} {v9 : Int32} {h9 : zH} (hf : FL_bestPen T p0 p1 p2 h = some (v9, h9)) : zMW l yL_bestPen (.codeWith yL_bestPen cL_bestPen 4 (some .int) [(0, 9, 12, 28)] :: TW) ({ frames := 8, cells := 1, slots := 6, locals := 144 } : Room) D T lo [.ref p0, .int p1, .ref p2] hi h (some (.int v9), hi, h9) :=
  z_enterW hl9 (own := RL) (nm := "bestPen") (lv := [(0, .ref p0), (1, .int p1), (2, .ref p2)]) (by decide +kernel) rfl rfl (Nat.le_of_ble_eq_true rfl) rfl (fun _ _ _ _ _ _ _ _ C => BL_bestPen C hf)
theorem dL_bestDecision_0 : decode cL_bestDecision 0 = .ok (.aload_n 2, 1) := by decide +kernel
theorem dL_bestDecision_1 : decode cL_bestDecision 1 = .ok (.iconst 0, 1) := by decide +kernel
theorem dL_bestDecision_2 : decode cL_bestDecision 2 = .ok (.aload_n 0, 1) := by decide +kernel
theorem dL_bestDecision_3 : decode cL_bestDecision 3 = .ok (.iload_n 1, 1) := by decide +kernel
theorem dL_bestDecision_4 : decode cL_bestDecision 4 = .ok (.invokevirtual 79, 3) := by decide +kernel
theorem dL_bestDecision_7 : decode cL_bestDecision 7 = .ok (.i2l, 1) := by decide +kernel
theorem dL_bestDecision_8 : decode cL_bestDecision 8 = .ok (.lastore, 1) := by decide +kernel
theorem dL_bestDecision_9 : decode cL_bestDecision 9 = .ok (.goto 6, 3) := by decide +kernel
theorem dL_bestDecision_12 : decode cL_bestDecision 12 = .ok (.astore_n 3, 1) := by decide +kernel
theorem dL_bestDecision_13 : decode cL_bestDecision 13 = .ok (.iconst 1, 1) := by decide +kernel
theorem dL_bestDecision_14 : decode cL_bestDecision 14 = .ok (.ireturn, 1) := by decide +kernel
theorem dL_bestDecision_15 : decode cL_bestDecision 15 = .ok (.iconst 0, 1) := by decide +kernel
theorem dL_bestDecision_16 : decode cL_bestDecision 16 = .ok (.ireturn, 1) := by decide +kernel
def FL_bestDecision (T : zT) (p0 : Nat) (p1 : Int32) (p2 : Nat) (h : zH) : Option (Int32 × zH) := zbh (FX6_bestDecision T p0 p1 h) (fun x2 h3 => (zls T h3 p2 0 x2.toInt64).bind fun h4 => some (0, h4)) (fun E5 h6 => if E5 = "java/lang/IndexOutOfBoundsException" then (some (1, h6)) else (none))
set_option maxHeartbeats 4000000 in
set_option maxRecDepth 100000 in
theorem BL_bestDecision {X : zX} (CW : zCW X cL_bestDecision 4 RL "bestDecision" (some .int) 8 143 [(0, 9, 12, 28)]) {hi : Nat} {h : zH} {p0 : Nat} {p1 : Int32} {p2 : Nat} {r9 : (Int32 × zH)} (hf : FL_bestDecision (xT X) p0 p1 p2 h = some r9) : zW X 4 (zZ X false (some (.int r9.1), hi, r9.2)) 1 6 false hi h 0 [(0, .ref p0), (1, .int p1), (2, .ref p2)] [] := by
  have C := CW.1
  unfold FL_bestDecision at hf
  refine z_aload_n C dL_bestDecision_0 2 rfl rfl ?_
  refine z_iconst C (v := 0) dL_bestDecision_1 (by decide) ?_
  refine z_aload_n C dL_bestDecision_2 0 rfl rfl ?_
  refine z_iload_n C dL_bestDecision_3 1 rfl rfl ?_
  refine z_callVH (kc' := 0) (ks' := 0) CW hf (fun _ _ e => MX6_bestDecision (xl X) CW.2.2.2.2 (xD X) (xT X) (xlo X) hi e) (fun _ e => OX6_bestDecision e) rfl cw_L_79 yv_X6_bestDecision dL_bestDecision_4 rfl (by decide) ⟨rfl, rfl⟩ (Nat.le_of_ble_eq_true rfl) (st := [.int 0, .ref p2]) rfl ?_ ?_
  · intro x2 h3 hf
    refine z_i2l C dL_bestDecision_7 ?_
    refine z_lastore C dL_bestDecision_8 hf (fun h4 hf => ?_)
    refine z_goto (tgt := 15) C dL_bestDecision_9 (by decide) ?_
    refine z_iconst C (v := 0) dL_bestDecision_15 (by decide) ?_
    exact z_ireturn C dL_bestDecision_16 (by cases hf; rfl)
  · intro E5 h6 hf
    refine z_ite hf (fun c hf => ?_) (fun c hf => ?_)
    · subst c
      refine ⟨[], ⟨0, 9, 12, 28⟩, [], "java/lang/IndexOutOfBoundsException", rfl, (fun _ hz => nomatch hz), by decide, by decide, mw_652, by decide, fun q9 => ?_⟩
      refine z_astore_n C dL_bestDecision_12 rfl (by decide) (lv' := [(3, .ref q9), (0, .ref p0), (1, .int p1), (2, .ref p2)]) rfl ?_
      refine z_iconst C (v := 1) dL_bestDecision_13 (by decide) ?_
      exact z_ireturn C dL_bestDecision_14 (by cases hf; rfl)
    · exact nomatch hf
theorem ML_bestDecision (l : Launch) (hl9 : l.stackTraces = false) (D : va_G) (T : zT) (lo : Nat) (hi : Nat) {h : zH} {p0 : Nat} {p1 : Int32} {p2 : Nat} {v9 : Int32} {h9 : zH} (hf : FL_bestDecision T p0 p1 p2 h = some (v9, h9)) : zMW l yL_bestDecision (.codeWith yL_bestDecision cL_bestDecision 4 (some .int) [(0, 9, 12, 28)] :: TW) ({ frames := 8, cells := 1, slots := 6, locals := 143 } : Room) D T lo [.ref p0, .int p1, .ref p2] hi h (some (.int v9), hi, h9) :=
  z_enterW hl9 (own := RL) (nm := "bestDecision") (lv := [(0, .ref p0), (1, .int p1), (2, .ref p2)]) (by decide +kernel) rfl rfl (Nat.le_of_ble_eq_true rfl) rfl (fun _ _ _ _ _ _ _ _ C => BL_bestDecision C hf)
theorem dL_wordsWith_0 : decode cL_wordsWith 0 = .ok (.aload_n 3, 1) := by decide +kernel
theorem dL_wordsWith_1 : decode cL_wordsWith 1 = .ok (.iconst 0, 1) := by decide +kernel
theorem dL_wordsWith_2 : decode cL_wordsWith 2 = .ok (.aload_n 0, 1) := by decide +kernel
theorem dL_wordsWith_3 : decode cL_wordsWith 3 = .ok (.iload_n 1, 1) := by decide +kernel
theorem dL_wordsWith_4 : decode cL_wordsWith 4 = .ok (.iload_n 2, 1) := by decide +kernel
theorem dL_wordsWith_5 : decode cL_wordsWith 5 = .ok (.invokevirtual 82, 3) := by decide +kernel
theorem dL_wordsWith_8 : decode cL_wordsWith 8 = .ok (.i2l, 1) := by decide +kernel
theorem dL_wordsWith_9 : decode cL_wordsWith 9 = .ok (.lastore, 1) := by decide +kernel
theorem dL_wordsWith_10 : decode cL_wordsWith 10 = .ok (.goto 11, 3) := by decide +kernel
theorem dL_wordsWith_13 : decode cL_wordsWith 13 = .ok (.astore 4, 2) := by decide +kernel
theorem dL_wordsWith_15 : decode cL_wordsWith 15 = .ok (.iconst 1, 1) := by decide +kernel
theorem dL_wordsWith_16 : decode cL_wordsWith 16 = .ok (.ireturn, 1) := by decide +kernel
theorem dL_wordsWith_17 : decode cL_wordsWith 17 = .ok (.astore 4, 2) := by decide +kernel
theorem dL_wordsWith_19 : decode cL_wordsWith 19 = .ok (.iconst 2, 1) := by decide +kernel
theorem dL_wordsWith_20 : decode cL_wordsWith 20 = .ok (.ireturn, 1) := by decide +kernel
theorem dL_wordsWith_21 : decode cL_wordsWith 21 = .ok (.iconst 0, 1) := by decide +kernel
theorem dL_wordsWith_22 : decode cL_wordsWith 22 = .ok (.ireturn, 1) := by decide +kernel
def FL_wordsWith (T : zT) (p0 : Nat) (p1 : Int32) (p2 : Int32) (p3 : Nat) (h : zH) : Option (Int32 × zH) := zbh (FX6_wordsWith T p0 p1 p2 h) (fun x2 h3 => (zls T h3 p3 0 x2.toInt64).bind fun h4 => some (0, h4)) (fun E5 h6 => if E5 = "java/lang/IndexOutOfBoundsException" then (some (1, h6)) else (if E5 = "java/lang/IllegalArgumentException" then (some (2, h6)) else (none)))
set_option maxHeartbeats 4000000 in
set_option maxRecDepth 100000 in
theorem BL_wordsWith {X : zX} (CW : zCW X cL_wordsWith 5 RL "wordsWith" (some .int) 8 149 [(0, 10, 13, 28), (0, 10, 17, 13)]) {hi : Nat} {h : zH} {p0 : Nat} {p1 : Int32} {p2 : Int32} {p3 : Nat} {r9 : (Int32 × zH)} (hf : FL_wordsWith (xT X) p0 p1 p2 p3 h = some r9) : zW X 5 (zZ X false (some (.int r9.1), hi, r9.2)) 2 12 false hi h 0 [(0, .ref p0), (1, .int p1), (2, .int p2), (3, .ref p3)] [] := by
  have C := CW.1
  unfold FL_wordsWith at hf
  refine z_aload_n C dL_wordsWith_0 3 rfl rfl ?_
  refine z_iconst C (v := 0) dL_wordsWith_1 (by decide) ?_
  refine z_aload_n C dL_wordsWith_2 0 rfl rfl ?_
  refine z_iload_n C dL_wordsWith_3 1 rfl rfl ?_
  refine z_iload_n C dL_wordsWith_4 2 rfl rfl ?_
  refine z_callVH (kc' := 0) (ks' := 0) CW hf (fun _ _ e => MX6_wordsWith (xl X) CW.2.2.2.2 (xD X) (xT X) (xlo X) hi e) (fun _ e => OX6_wordsWith e) rfl cw_L_82 yv_X6_wordsWith dL_wordsWith_5 rfl (by decide) ⟨rfl, rfl⟩ (Nat.le_of_ble_eq_true rfl) (st := [.int 0, .ref p3]) rfl ?_ ?_
  · intro x2 h3 hf
    refine z_i2l C dL_wordsWith_8 ?_
    refine z_lastore C dL_wordsWith_9 hf (fun h4 hf => ?_)
    refine z_goto (tgt := 21) C dL_wordsWith_10 (by decide) ?_
    refine z_iconst C (v := 0) dL_wordsWith_21 (by decide) ?_
    exact z_ireturn C dL_wordsWith_22 (by cases hf; rfl)
  · intro E5 h6 hf
    refine z_ite hf (fun c hf => ?_) (fun c hf => ?_)
    · subst c
      refine ⟨[], ⟨0, 10, 13, 28⟩, [⟨0, 10, 17, 13⟩], "java/lang/IndexOutOfBoundsException", rfl, (fun _ hz => nomatch hz), by decide, by decide, mw_652, by decide, fun q9 => ?_⟩
      refine z_astore C dL_wordsWith_13 (by decide) (lv' := [(4, .ref q9), (0, .ref p0), (1, .int p1), (2, .int p2), (3, .ref p3)]) rfl ?_
      refine z_iconst C (v := 1) dL_wordsWith_15 (by decide) ?_
      exact z_ireturn C dL_wordsWith_16 (by cases hf; rfl)
    · refine z_ite hf (fun c hf => ?_) (fun c hf => ?_)
      · subst c
        refine ⟨[⟨0, 10, 13, 28⟩], ⟨0, 10, 17, 13⟩, [], "java/lang/IllegalArgumentException", rfl, (by intro z hz; rcases List.mem_cons.mp hz with rfl | hz; exact Or.inr ⟨by decide, "java/lang/IndexOutOfBoundsException", mw_652, by decide⟩; exact absurd hz List.not_mem_nil), by decide, by decide, mw_519, by decide, fun q9 => ?_⟩
        refine z_astore C dL_wordsWith_17 (by decide) (lv' := [(4, .ref q9), (0, .ref p0), (1, .int p1), (2, .int p2), (3, .ref p3)]) rfl ?_
        refine z_iconst C (v := 2) dL_wordsWith_19 (by decide) ?_
        exact z_ireturn C dL_wordsWith_20 (by cases hf; rfl)
      · exact nomatch hf
theorem ML_wordsWith (l : Launch) (hl9 : l.stackTraces = false) (D : va_G) (T : zT) (lo : Nat) (hi : Nat) {h : zH} {p0 : Nat} {p1 : Int32} {p2 : Int32} {p3 : Nat} {v9 : Int32} {h9 : zH} (hf : FL_wordsWith T p0 p1 p2 p3 h = some (v9, h9)) : zMW l yL_wordsWith (.codeWith yL_wordsWith cL_wordsWith 5 (some .int) [(0, 10, 13, 28), (0, 10, 17, 13)] :: TW) ({ frames := 8, cells := 2, slots := 12, locals := 149 } : Room) D T lo [.ref p0, .int p1, .int p2, .ref p3] hi h (some (.int v9), hi, h9) :=
  z_enterW hl9 (own := RL) (nm := "wordsWith") (lv := [(0, .ref p0), (1, .int p1), (2, .int p2), (3, .ref p3)]) (by decide +kernel) rfl rfl (Nat.le_of_ble_eq_true rfl) rfl (fun _ _ _ _ _ _ _ _ C => BL_wordsWith C hf)
theorem dL_runScript_0 : decode cL_runScript 0 = .ok (.aload 4, 2) := by decide +kernel
theorem dL_runScript_2 : decode cL_runScript 2 = .ok (.iconst 0, 1) := by decide +kernel
theorem dL_runScript_3 : decode cL_runScript 3 = .ok (.aload_n 0, 1) := by decide +kernel
theorem dL_runScript_4 : decode cL_runScript 4 = .ok (.iload_n 1, 1) := by decide +kernel
theorem dL_runScript_5 : decode cL_runScript 5 = .ok (.lload_n 2, 1) := by decide +kernel
theorem dL_runScript_6 : decode cL_runScript 6 = .ok (.invokevirtual 85, 3) := by decide +kernel
theorem dL_runScript_9 : decode cL_runScript 9 = .ok (.i2l, 1) := by decide +kernel
theorem dL_runScript_10 : decode cL_runScript 10 = .ok (.lastore, 1) := by decide +kernel
theorem dL_runScript_11 : decode cL_runScript 11 = .ok (.goto 7, 3) := by decide +kernel
theorem dL_runScript_14 : decode cL_runScript 14 = .ok (.astore 5, 2) := by decide +kernel
theorem dL_runScript_16 : decode cL_runScript 16 = .ok (.iconst 1, 1) := by decide +kernel
theorem dL_runScript_17 : decode cL_runScript 17 = .ok (.ireturn, 1) := by decide +kernel
theorem dL_runScript_18 : decode cL_runScript 18 = .ok (.iconst 0, 1) := by decide +kernel
theorem dL_runScript_19 : decode cL_runScript 19 = .ok (.ireturn, 1) := by decide +kernel
def FL_runScript (T : zT) (p0 : Nat) (p1 : Int32) (p2 : Int64) (p3 : Nat) (h : zH) : Option (Int32 × zH) := zbh (FX6_runScript T p0 p1 p2 h) (fun x2 h3 => (zls T h3 p3 0 x2.toInt64).bind fun h4 => some (0, h4)) (fun E5 h6 => if E5 = "java/lang/IllegalArgumentException" then (some (1, h6)) else (none))
set_option maxHeartbeats 4000000 in
set_option maxRecDepth 100000 in
theorem BL_runScript {X : zX} (CW : zCW X cL_runScript 6 RL "runScript" (some .int) 8 177 [(0, 11, 14, 13)]) {hi : Nat} {h : zH} {p0 : Nat} {p1 : Int32} {p2 : Int64} {p3 : Nat} {r9 : (Int32 × zH)} (hf : FL_runScript (xT X) p0 p1 p2 p3 h = some r9) : zW X 6 (zZ X false (some (.int r9.1), hi, r9.2)) 2 12 false hi h 0 [(0, .ref p0), (1, .int p1), (2, .long p2), (4, .ref p3)] [] := by
  have C := CW.1
  unfold FL_runScript at hf
  refine z_aload C dL_runScript_0 3 rfl ?_
  refine z_iconst C (v := 0) dL_runScript_2 (by decide) ?_
  refine z_aload_n C dL_runScript_3 0 rfl rfl ?_
  refine z_iload_n C dL_runScript_4 1 rfl rfl ?_
  refine z_lload_n C dL_runScript_5 2 rfl rfl ?_
  refine z_callVH (kc' := 0) (ks' := 0) CW hf (fun _ _ e => MX6_runScript (xl X) CW.2.2.2.2 (xD X) (xT X) (xlo X) hi e) (fun _ e => OX6_runScript e) rfl cw_L_85 yv_X6_runScript dL_runScript_6 rfl (by decide) ⟨rfl, rfl⟩ (Nat.le_of_ble_eq_true rfl) (st := [.int 0, .ref p3]) rfl ?_ ?_
  · intro x2 h3 hf
    refine z_i2l C dL_runScript_9 ?_
    refine z_lastore C dL_runScript_10 hf (fun h4 hf => ?_)
    refine z_goto (tgt := 18) C dL_runScript_11 (by decide) ?_
    refine z_iconst C (v := 0) dL_runScript_18 (by decide) ?_
    exact z_ireturn C dL_runScript_19 (by cases hf; rfl)
  · intro E5 h6 hf
    refine z_ite hf (fun c hf => ?_) (fun c hf => ?_)
    · subst c
      refine ⟨[], ⟨0, 11, 14, 13⟩, [], "java/lang/IllegalArgumentException", rfl, (fun _ hz => nomatch hz), by decide, by decide, mw_519, by decide, fun q9 => ?_⟩
      refine z_astore C dL_runScript_14 (by decide) (lv' := [(5, .ref q9), (0, .ref p0), (1, .int p1), (2, .long p2), (4, .ref p3)]) rfl ?_
      refine z_iconst C (v := 1) dL_runScript_16 (by decide) ?_
      exact z_ireturn C dL_runScript_17 (by cases hf; rfl)
    · exact nomatch hf
theorem ML_runScript (l : Launch) (hl9 : l.stackTraces = false) (D : va_G) (T : zT) (lo : Nat) (hi : Nat) {h : zH} {p0 : Nat} {p1 : Int32} {p2 : Int64} {p3 : Nat} {v9 : Int32} {h9 : zH} (hf : FL_runScript T p0 p1 p2 p3 h = some (v9, h9)) : zMW l yL_runScript (.codeWith yL_runScript cL_runScript 6 (some .int) [(0, 11, 14, 13)] :: TW) ({ frames := 8, cells := 2, slots := 12, locals := 177 } : Room) D T lo [.ref p0, .int p1, .long p2, .ref p3] hi h (some (.int v9), hi, h9) :=
  z_enterW hl9 (own := RL) (nm := "runScript") (lv := [(0, .ref p0), (1, .int p1), (2, .long p2), (4, .ref p3)]) (by decide +kernel) rfl rfl (Nat.le_of_ble_eq_true rfl) rfl (fun _ _ _ _ _ _ _ _ C => BL_runScript C hf)
theorem dL_simulate_0 : decode cL_simulate 0 = .ok (.aload 4, 2) := by decide +kernel
theorem dL_simulate_2 : decode cL_simulate 2 = .ok (.iconst 0, 1) := by decide +kernel
theorem dL_simulate_3 : decode cL_simulate 3 = .ok (.aload_n 0, 1) := by decide +kernel
theorem dL_simulate_4 : decode cL_simulate 4 = .ok (.lload_n 1, 1) := by decide +kernel
theorem dL_simulate_5 : decode cL_simulate 5 = .ok (.iload_n 3, 1) := by decide +kernel
theorem dL_simulate_6 : decode cL_simulate 6 = .ok (.invokevirtual 89, 3) := by decide +kernel
theorem dL_simulate_9 : decode cL_simulate 9 = .ok (.i2l, 1) := by decide +kernel
theorem dL_simulate_10 : decode cL_simulate 10 = .ok (.lastore, 1) := by decide +kernel
theorem dL_simulate_11 : decode cL_simulate 11 = .ok (.goto 7, 3) := by decide +kernel
theorem dL_simulate_14 : decode cL_simulate 14 = .ok (.astore 5, 2) := by decide +kernel
theorem dL_simulate_16 : decode cL_simulate 16 = .ok (.iconst 1, 1) := by decide +kernel
theorem dL_simulate_17 : decode cL_simulate 17 = .ok (.ireturn, 1) := by decide +kernel
theorem dL_simulate_18 : decode cL_simulate 18 = .ok (.iconst 0, 1) := by decide +kernel
theorem dL_simulate_19 : decode cL_simulate 19 = .ok (.ireturn, 1) := by decide +kernel
def FL_simulate (T : zT) (p0 : Nat) (p1 : Int64) (p2 : Int32) (p3 : Nat) (h : zH) : Option (Int32 × zH) := zbh (FX6_simulate T p0 p1 p2 h) (fun x2 h3 => (zls T h3 p3 0 x2.toInt64).bind fun h4 => some (0, h4)) (fun E5 h6 => if E5 = "java/lang/IllegalArgumentException" then (some (1, h6)) else (none))
set_option maxHeartbeats 4000000 in
set_option maxRecDepth 100000 in
theorem BL_simulate {X : zX} (CW : zCW X cL_simulate 6 RL "simulate" (some .int) 8 153 [(0, 11, 14, 13)]) {hi : Nat} {h : zH} {p0 : Nat} {p1 : Int64} {p2 : Int32} {p3 : Nat} {r9 : (Int32 × zH)} (hf : FL_simulate (xT X) p0 p1 p2 p3 h = some r9) : zW X 6 (zZ X false (some (.int r9.1), hi, r9.2)) 1 6 false hi h 0 [(0, .ref p0), (1, .long p1), (3, .int p2), (4, .ref p3)] [] := by
  have C := CW.1
  unfold FL_simulate at hf
  refine z_aload C dL_simulate_0 3 rfl ?_
  refine z_iconst C (v := 0) dL_simulate_2 (by decide) ?_
  refine z_aload_n C dL_simulate_3 0 rfl rfl ?_
  refine z_lload_n C dL_simulate_4 1 rfl rfl ?_
  refine z_iload_n C dL_simulate_5 2 rfl rfl ?_
  refine z_callVH (kc' := 0) (ks' := 0) CW hf (fun _ _ e => MX6_simulate (xl X) CW.2.2.2.2 (xD X) (xT X) (xlo X) hi e) (fun _ e => OX6_simulate e) rfl cw_L_89 yv_X6_simulate dL_simulate_6 rfl (by decide) ⟨rfl, rfl⟩ (Nat.le_of_ble_eq_true rfl) (st := [.int 0, .ref p3]) rfl ?_ ?_
  · intro x2 h3 hf
    refine z_i2l C dL_simulate_9 ?_
    refine z_lastore C dL_simulate_10 hf (fun h4 hf => ?_)
    refine z_goto (tgt := 18) C dL_simulate_11 (by decide) ?_
    refine z_iconst C (v := 0) dL_simulate_18 (by decide) ?_
    exact z_ireturn C dL_simulate_19 (by cases hf; rfl)
  · intro E5 h6 hf
    refine z_ite hf (fun c hf => ?_) (fun c hf => ?_)
    · subst c
      refine ⟨[], ⟨0, 11, 14, 13⟩, [], "java/lang/IllegalArgumentException", rfl, (fun _ hz => nomatch hz), by decide, by decide, mw_519, by decide, fun q9 => ?_⟩
      refine z_astore C dL_simulate_14 (by decide) (lv' := [(5, .ref q9), (0, .ref p0), (1, .long p1), (3, .int p2), (4, .ref p3)]) rfl ?_
      refine z_iconst C (v := 1) dL_simulate_16 (by decide) ?_
      exact z_ireturn C dL_simulate_17 (by cases hf; rfl)
    · exact nomatch hf
theorem ML_simulate (l : Launch) (hl9 : l.stackTraces = false) (D : va_G) (T : zT) (lo : Nat) (hi : Nat) {h : zH} {p0 : Nat} {p1 : Int64} {p2 : Int32} {p3 : Nat} {v9 : Int32} {h9 : zH} (hf : FL_simulate T p0 p1 p2 p3 h = some (v9, h9)) : zMW l yL_simulate (.codeWith yL_simulate cL_simulate 6 (some .int) [(0, 11, 14, 13)] :: TW) ({ frames := 8, cells := 1, slots := 6, locals := 153 } : Room) D T lo [.ref p0, .long p1, .int p2, .ref p3] hi h (some (.int v9), hi, h9) :=
  z_enterW hl9 (own := RL) (nm := "simulate") (lv := [(0, .ref p0), (1, .long p1), (3, .int p2), (4, .ref p3)]) (by decide +kernel) rfl rfl (Nat.le_of_ble_eq_true rfl) rfl (fun _ _ _ _ _ _ _ _ C => BL_simulate C hf)
theorem dL_save_0 : decode cL_save 0 = .ok (.aload_n 2, 1) := by decide +kernel
theorem dL_save_1 : decode cL_save 1 = .ok (.iconst 0, 1) := by decide +kernel
theorem dL_save_2 : decode cL_save 2 = .ok (.aload_n 0, 1) := by decide +kernel
theorem dL_save_3 : decode cL_save 3 = .ok (.iload_n 1, 1) := by decide +kernel
theorem dL_save_4 : decode cL_save 4 = .ok (.invokevirtual 93, 3) := by decide +kernel
theorem dL_save_7 : decode cL_save 7 = .ok (.i2l, 1) := by decide +kernel
theorem dL_save_8 : decode cL_save 8 = .ok (.lastore, 1) := by decide +kernel
theorem dL_save_9 : decode cL_save 9 = .ok (.goto 6, 3) := by decide +kernel
theorem dL_save_12 : decode cL_save 12 = .ok (.astore_n 3, 1) := by decide +kernel
theorem dL_save_13 : decode cL_save 13 = .ok (.iconst 1, 1) := by decide +kernel
theorem dL_save_14 : decode cL_save 14 = .ok (.ireturn, 1) := by decide +kernel
theorem dL_save_15 : decode cL_save 15 = .ok (.iconst 0, 1) := by decide +kernel
theorem dL_save_16 : decode cL_save 16 = .ok (.ireturn, 1) := by decide +kernel
def FL_save (T : zT) (p0 : Nat) (p1 : Int32) (p2 : Nat) (h : zH) : Option (Int32 × zH) := zbh (FX6_save T p0 p1 h) (fun x2 h3 => (zls T h3 p2 0 x2.toInt64).bind fun h4 => some (0, h4)) (fun E5 h6 => if E5 = "java/lang/IndexOutOfBoundsException" then (some (1, h6)) else (none))
set_option maxHeartbeats 4000000 in
set_option maxRecDepth 100000 in
theorem BL_save {X : zX} (CW : zCW X cL_save 4 RL "save" (some .int) 8 131 [(0, 9, 12, 28)]) {hi : Nat} {h : zH} {p0 : Nat} {p1 : Int32} {p2 : Nat} {r9 : (Int32 × zH)} (hf : FL_save (xT X) p0 p1 p2 h = some r9) : zW X 4 (zZ X false (some (.int r9.1), hi, r9.2)) 1 6 false hi h 0 [(0, .ref p0), (1, .int p1), (2, .ref p2)] [] := by
  have C := CW.1
  unfold FL_save at hf
  refine z_aload_n C dL_save_0 2 rfl rfl ?_
  refine z_iconst C (v := 0) dL_save_1 (by decide) ?_
  refine z_aload_n C dL_save_2 0 rfl rfl ?_
  refine z_iload_n C dL_save_3 1 rfl rfl ?_
  refine z_callVH (kc' := 0) (ks' := 0) CW hf (fun _ _ e => MX6_save (xl X) CW.2.2.2.2 (xD X) (xT X) (xlo X) hi e) (fun _ e => OX6_save e) rfl cw_L_93 yv_X6_save dL_save_4 rfl (by decide) ⟨rfl, rfl⟩ (Nat.le_of_ble_eq_true rfl) (st := [.int 0, .ref p2]) rfl ?_ ?_
  · intro x2 h3 hf
    refine z_i2l C dL_save_7 ?_
    refine z_lastore C dL_save_8 hf (fun h4 hf => ?_)
    refine z_goto (tgt := 15) C dL_save_9 (by decide) ?_
    refine z_iconst C (v := 0) dL_save_15 (by decide) ?_
    exact z_ireturn C dL_save_16 (by cases hf; rfl)
  · intro E5 h6 hf
    refine z_ite hf (fun c hf => ?_) (fun c hf => ?_)
    · subst c
      refine ⟨[], ⟨0, 9, 12, 28⟩, [], "java/lang/IndexOutOfBoundsException", rfl, (fun _ hz => nomatch hz), by decide, by decide, mw_652, by decide, fun q9 => ?_⟩
      refine z_astore_n C dL_save_12 rfl (by decide) (lv' := [(3, .ref q9), (0, .ref p0), (1, .int p1), (2, .ref p2)]) rfl ?_
      refine z_iconst C (v := 1) dL_save_13 (by decide) ?_
      exact z_ireturn C dL_save_14 (by cases hf; rfl)
    · exact nomatch hf
theorem ML_save (l : Launch) (hl9 : l.stackTraces = false) (D : va_G) (T : zT) (lo : Nat) (hi : Nat) {h : zH} {p0 : Nat} {p1 : Int32} {p2 : Nat} {v9 : Int32} {h9 : zH} (hf : FL_save T p0 p1 p2 h = some (v9, h9)) : zMW l yL_save (.codeWith yL_save cL_save 4 (some .int) [(0, 9, 12, 28)] :: TW) ({ frames := 8, cells := 1, slots := 6, locals := 131 } : Room) D T lo [.ref p0, .int p1, .ref p2] hi h (some (.int v9), hi, h9) :=
  z_enterW hl9 (own := RL) (nm := "save") (lv := [(0, .ref p0), (1, .int p1), (2, .ref p2)]) (by decide +kernel) rfl rfl (Nat.le_of_ble_eq_true rfl) rfl (fun _ _ _ _ _ _ _ _ C => BL_save C hf)
theorem dL_restore_0 : decode cL_restore 0 = .ok (.aload_n 2, 1) := by decide +kernel
theorem dL_restore_1 : decode cL_restore 1 = .ok (.iconst 0, 1) := by decide +kernel
theorem dL_restore_2 : decode cL_restore 2 = .ok (.aload_n 0, 1) := by decide +kernel
theorem dL_restore_3 : decode cL_restore 3 = .ok (.iload_n 1, 1) := by decide +kernel
theorem dL_restore_4 : decode cL_restore 4 = .ok (.invokevirtual 96, 3) := by decide +kernel
theorem dL_restore_7 : decode cL_restore 7 = .ok (.i2l, 1) := by decide +kernel
theorem dL_restore_8 : decode cL_restore 8 = .ok (.lastore, 1) := by decide +kernel
theorem dL_restore_9 : decode cL_restore 9 = .ok (.goto 9, 3) := by decide +kernel
theorem dL_restore_12 : decode cL_restore 12 = .ok (.astore_n 3, 1) := by decide +kernel
theorem dL_restore_13 : decode cL_restore 13 = .ok (.iconst 1, 1) := by decide +kernel
theorem dL_restore_14 : decode cL_restore 14 = .ok (.ireturn, 1) := by decide +kernel
theorem dL_restore_15 : decode cL_restore 15 = .ok (.astore_n 3, 1) := by decide +kernel
theorem dL_restore_16 : decode cL_restore 16 = .ok (.iconst 2, 1) := by decide +kernel
theorem dL_restore_17 : decode cL_restore 17 = .ok (.ireturn, 1) := by decide +kernel
theorem dL_restore_18 : decode cL_restore 18 = .ok (.iconst 0, 1) := by decide +kernel
theorem dL_restore_19 : decode cL_restore 19 = .ok (.ireturn, 1) := by decide +kernel
def FL_restore (T : zT) (p0 : Nat) (p1 : Int32) (p2 : Nat) (h : zH) : Option (Int32 × zH) := zbh (FX6_restore T p0 p1 h) (fun x2 h3 => (zls T h3 p2 0 x2.toInt64).bind fun h4 => some (0, h4)) (fun E5 h6 => if E5 = "java/lang/IndexOutOfBoundsException" then (some (1, h6)) else (if E5 = "java/lang/IllegalStateException" then (some (2, h6)) else (none)))
set_option maxHeartbeats 4000000 in
set_option maxRecDepth 100000 in
theorem BL_restore {X : zX} (CW : zCW X cL_restore 4 RL "restore" (some .int) 8 131 [(0, 9, 12, 28), (0, 9, 15, 15)]) {hi : Nat} {h : zH} {p0 : Nat} {p1 : Int32} {p2 : Nat} {r9 : (Int32 × zH)} (hf : FL_restore (xT X) p0 p1 p2 h = some r9) : zW X 4 (zZ X false (some (.int r9.1), hi, r9.2)) 2 12 false hi h 0 [(0, .ref p0), (1, .int p1), (2, .ref p2)] [] := by
  have C := CW.1
  unfold FL_restore at hf
  refine z_aload_n C dL_restore_0 2 rfl rfl ?_
  refine z_iconst C (v := 0) dL_restore_1 (by decide) ?_
  refine z_aload_n C dL_restore_2 0 rfl rfl ?_
  refine z_iload_n C dL_restore_3 1 rfl rfl ?_
  refine z_callVH (kc' := 0) (ks' := 0) CW hf (fun _ _ e => MX6_restore (xl X) CW.2.2.2.2 (xD X) (xT X) (xlo X) hi e) (fun _ e => OX6_restore e) rfl cw_L_96 yv_X6_restore dL_restore_4 rfl (by decide) ⟨rfl, rfl⟩ (Nat.le_of_ble_eq_true rfl) (st := [.int 0, .ref p2]) rfl ?_ ?_
  · intro x2 h3 hf
    refine z_i2l C dL_restore_7 ?_
    refine z_lastore C dL_restore_8 hf (fun h4 hf => ?_)
    refine z_goto (tgt := 18) C dL_restore_9 (by decide) ?_
    refine z_iconst C (v := 0) dL_restore_18 (by decide) ?_
    exact z_ireturn C dL_restore_19 (by cases hf; rfl)
  · intro E5 h6 hf
    refine z_ite hf (fun c hf => ?_) (fun c hf => ?_)
    · subst c
      refine ⟨[], ⟨0, 9, 12, 28⟩, [⟨0, 9, 15, 15⟩], "java/lang/IndexOutOfBoundsException", rfl, (fun _ hz => nomatch hz), by decide, by decide, mw_652, by decide, fun q9 => ?_⟩
      refine z_astore_n C dL_restore_12 rfl (by decide) (lv' := [(3, .ref q9), (0, .ref p0), (1, .int p1), (2, .ref p2)]) rfl ?_
      refine z_iconst C (v := 1) dL_restore_13 (by decide) ?_
      exact z_ireturn C dL_restore_14 (by cases hf; rfl)
    · refine z_ite hf (fun c hf => ?_) (fun c hf => ?_)
      · subst c
        refine ⟨[⟨0, 9, 12, 28⟩], ⟨0, 9, 15, 15⟩, [], "java/lang/IllegalStateException", rfl, (by intro z hz; rcases List.mem_cons.mp hz with rfl | hz; exact Or.inr ⟨by decide, "java/lang/IndexOutOfBoundsException", mw_652, by decide⟩; exact absurd hz List.not_mem_nil), by decide, by decide, mw_520, by decide, fun q9 => ?_⟩
        refine z_astore_n C dL_restore_15 rfl (by decide) (lv' := [(3, .ref q9), (0, .ref p0), (1, .int p1), (2, .ref p2)]) rfl ?_
        refine z_iconst C (v := 2) dL_restore_16 (by decide) ?_
        exact z_ireturn C dL_restore_17 (by cases hf; rfl)
      · exact nomatch hf
theorem ML_restore (l : Launch) (hl9 : l.stackTraces = false) (D : va_G) (T : zT) (lo : Nat) (hi : Nat) {h : zH} {p0 : Nat} {p1 : Int32} {p2 : Nat} {v9 : Int32} {h9 : zH} (hf : FL_restore T p0 p1 p2 h = some (v9, h9)) : zMW l yL_restore (.codeWith yL_restore cL_restore 4 (some .int) [(0, 9, 12, 28), (0, 9, 15, 15)] :: TW) ({ frames := 8, cells := 2, slots := 12, locals := 131 } : Room) D T lo [.ref p0, .int p1, .ref p2] hi h (some (.int v9), hi, h9) :=
  z_enterW hl9 (own := RL) (nm := "restore") (lv := [(0, .ref p0), (1, .int p1), (2, .ref p2)]) (by decide +kernel) rfl rfl (Nat.le_of_ble_eq_true rfl) rfl (fun _ _ _ _ _ _ _ _ C => BL_restore C hf)
