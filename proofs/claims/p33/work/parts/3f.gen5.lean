theorem mw_1 : (Jvm.Cond.selects "CrossedSheet" ({ cls := "CrossedSheet", name := "playRound", desc := "(I)V" } : Jvm.MethodName) ({ cls := "CrossedSheet", name := "playRound", desc := "(I)V" } : Jvm.MethodName)) ∈ TW := TWm 1 (by decide +kernel) (by decide +kernel)
theorem mw_16 : (Jvm.Cond.selects "CrossedSheet" ({ cls := "CrossedSheet", name := "splitSigns", desc := "(IJ)Z" } : Jvm.MethodName) ({ cls := "CrossedSheet", name := "splitSigns", desc := "(IJ)Z" } : Jvm.MethodName)) ∈ TW := TWm 16 (by decide +kernel) (by decide +kernel)
theorem mw_18 : (Jvm.Cond.selects "CrossedSheet" ({ cls := "CrossedSheet", name := "splitScript", desc := "(IJ)Z" } : Jvm.MethodName) ({ cls := "CrossedSheet", name := "splitScript", desc := "(IJ)Z" } : Jvm.MethodName)) ∈ TW := TWm 18 (by decide +kernel) (by decide +kernel)
theorem mw_19 : (Jvm.Cond.selects "CrossedSheet" ({ cls := "CrossedSheet", name := "succeeds", desc := "(I)Z" } : Jvm.MethodName) ({ cls := "CrossedSheet", name := "succeeds", desc := "(I)Z" } : Jvm.MethodName)) ∈ TW := TWm 19 (by decide +kernel) (by decide +kernel)
theorem mw_197 : (Jvm.Cond.fieldLink "CrossedSheet" (239 : Nat) "CrossedSheet$History" "size" "I") ∈ TW := TWm 197 (by decide +kernel) (by decide +kernel)
theorem mw_218 : (Jvm.Cond.fieldLink "CrossedSheet" (253 : Nat) "CrossedSheet$Reading" "wordCount" "I") ∈ TW := TWm 218 (by decide +kernel) (by decide +kernel)
theorem mw_375 : (Jvm.Cond.constantLong "CrossedSheet" (289 : Nat) (6364136223846793005 : Int64)) ∈ TW := TWm 375 (by decide +kernel) (by decide +kernel)
theorem mw_376 : (Jvm.Cond.constantLong "CrossedSheet" (291 : Nat) (1442695040888963407 : Int64)) ∈ TW := TWm 376 (by decide +kernel) (by decide +kernel)
theorem mw_377 : (Jvm.Cond.methodLink "CrossedSheet" (293 : Nat) ({ cls := "CrossedSheet", name := "playRound", desc := "(I)V" } : Jvm.MethodName)) ∈ TW := TWm 377 (by decide +kernel) (by decide +kernel)
theorem mw_379 : (Jvm.Cond.instanceMethod ({ cls := "CrossedSheet", name := "playRound", desc := "(I)V" } : Jvm.MethodName)) ∈ TW := TWm 379 (by decide +kernel) (by decide +kernel)
theorem mw_380 : (Jvm.Cond.code ({ cls := "CrossedSheet", name := "playRound", desc := "(I)V" } : Jvm.MethodName) prog_1_method_53_code (4 : Nat) (Option.none : Option Jvm.ClassFile.FieldType)) ∈ TW := TWm 380 (by decide +kernel) (by decide +kernel)
theorem mw_789 : (Jvm.Cond.methodLink "CrossedSheet" (244 : Nat) ({ cls := "CrossedSheet$History", name := "takeBack", desc := "(LCrossedSheet$Sheet;)V" } : Jvm.MethodName)) ∈ TW := TWm 789 (by decide +kernel) (by decide +kernel)
theorem mw_790 : (Jvm.Cond.instanceMethod ({ cls := "CrossedSheet$History", name := "takeBack", desc := "(LCrossedSheet$Sheet;)V" } : Jvm.MethodName)) ∈ TW := TWm 790 (by decide +kernel) (by decide +kernel)
theorem mw_791 : (Jvm.Cond.selects "CrossedSheet$History" ({ cls := "CrossedSheet$History", name := "takeBack", desc := "(LCrossedSheet$Sheet;)V" } : Jvm.MethodName) ({ cls := "CrossedSheet$History", name := "takeBack", desc := "(LCrossedSheet$Sheet;)V" } : Jvm.MethodName)) ∈ TW := TWm 791 (by decide +kernel) (by decide +kernel)
theorem mw_792 : (Jvm.Cond.code ({ cls := "CrossedSheet$History", name := "takeBack", desc := "(LCrossedSheet$Sheet;)V" } : Jvm.MethodName) prog_2_method_3_code (2 : Nat) (Option.none : Option Jvm.ClassFile.FieldType)) ∈ TW := TWm 792 (by decide +kernel) (by decide +kernel)
theorem mw_809 : (Jvm.Cond.methodLink "CrossedSheet" (268 : Nat) ({ cls := "CrossedSheet$Reading", name := "countSign", desc := "(I)I" } : Jvm.MethodName)) ∈ TW := TWm 809 (by decide +kernel) (by decide +kernel)
theorem mw_810 : (Jvm.Cond.instanceMethod ({ cls := "CrossedSheet$Reading", name := "countSign", desc := "(I)I" } : Jvm.MethodName)) ∈ TW := TWm 810 (by decide +kernel) (by decide +kernel)
theorem mw_811 : (Jvm.Cond.selects "CrossedSheet$Reading" ({ cls := "CrossedSheet$Reading", name := "countSign", desc := "(I)I" } : Jvm.MethodName) ({ cls := "CrossedSheet$Reading", name := "countSign", desc := "(I)I" } : Jvm.MethodName)) ∈ TW := TWm 811 (by decide +kernel) (by decide +kernel)
theorem mw_812 : (Jvm.Cond.code ({ cls := "CrossedSheet$Reading", name := "countSign", desc := "(I)I" } : Jvm.MethodName) prog_4_method_9_code (4 : Nat) (Option.some Jvm.ClassFile.FieldType.int)) ∈ TW := TWm 812 (by decide +kernel) (by decide +kernel)
theorem mw_820 : (Jvm.Cond.methodLink "CrossedSheet" (271 : Nat) ({ cls := "CrossedSheet$Sheet", name := "putPen", desc := "(III)V" } : Jvm.MethodName)) ∈ TW := TWm 820 (by decide +kernel) (by decide +kernel)
theorem mw_821 : (Jvm.Cond.instanceMethod ({ cls := "CrossedSheet$Sheet", name := "putPen", desc := "(III)V" } : Jvm.MethodName)) ∈ TW := TWm 821 (by decide +kernel) (by decide +kernel)
theorem mw_822 : (Jvm.Cond.selects "CrossedSheet$Sheet" ({ cls := "CrossedSheet$Sheet", name := "putPen", desc := "(III)V" } : Jvm.MethodName) ({ cls := "CrossedSheet$Sheet", name := "putPen", desc := "(III)V" } : Jvm.MethodName)) ∈ TW := TWm 822 (by decide +kernel) (by decide +kernel)
theorem mw_823 : (Jvm.Cond.code ({ cls := "CrossedSheet$Sheet", name := "putPen", desc := "(III)V" } : Jvm.MethodName) prog_5_method_6_code (4 : Nat) (Option.none : Option Jvm.ClassFile.FieldType)) ∈ TW := TWm 823 (by decide +kernel) (by decide +kernel)
theorem mw_831 : (Jvm.Cond.methodLink "CrossedSheet" (274 : Nat) ({ cls := "CrossedSheet$Sheet", name := "ownerOfFirst", desc := "(II)I" } : Jvm.MethodName)) ∈ TW := TWm 831 (by decide +kernel) (by decide +kernel)
theorem mw_832 : (Jvm.Cond.methodLink "CrossedSheet" (277 : Nat) ({ cls := "CrossedSheet$Sheet", name := "firstToDecide", desc := "(III)I" } : Jvm.MethodName)) ∈ TW := TWm 832 (by decide +kernel) (by decide +kernel)
theorem mw_833 : (Jvm.Cond.instanceMethod ({ cls := "CrossedSheet$Sheet", name := "firstToDecide", desc := "(III)I" } : Jvm.MethodName)) ∈ TW := TWm 833 (by decide +kernel) (by decide +kernel)
theorem mw_834 : (Jvm.Cond.selects "CrossedSheet$Sheet" ({ cls := "CrossedSheet$Sheet", name := "firstToDecide", desc := "(III)I" } : Jvm.MethodName) ({ cls := "CrossedSheet$Sheet", name := "firstToDecide", desc := "(III)I" } : Jvm.MethodName)) ∈ TW := TWm 834 (by decide +kernel) (by decide +kernel)
theorem mw_835 : (Jvm.Cond.code ({ cls := "CrossedSheet$Sheet", name := "firstToDecide", desc := "(III)I" } : Jvm.MethodName) prog_5_method_19_code (5 : Nat) (Option.some Jvm.ClassFile.FieldType.int)) ∈ TW := TWm 835 (by decide +kernel) (by decide +kernel)
theorem mw_851 : (Jvm.Cond.methodLink "CrossedSheet" (296 : Nat) ({ cls := "CrossedSheet", name := "checkSlot", desc := "(I)V" } : Jvm.MethodName)) ∈ TW := TWm 851 (by decide +kernel) (by decide +kernel)
theorem mw_852 : (Jvm.Cond.static ({ cls := "CrossedSheet", name := "checkSlot", desc := "(I)V" } : Jvm.MethodName)) ∈ TW := TWm 852 (by decide +kernel) (by decide +kernel)
theorem mw_853 : (Jvm.Cond.code ({ cls := "CrossedSheet", name := "checkSlot", desc := "(I)V" } : Jvm.MethodName) prog_1_method_34_code (1 : Nat) (Option.none : Option Jvm.ClassFile.FieldType)) ∈ TW := TWm 853 (by decide +kernel) (by decide +kernel)
theorem mw_855 : (Jvm.Cond.methodLink "CrossedSheet" (299 : Nat) ({ cls := "CrossedSheet$Shelf", name := "store", desc := "(ILCrossedSheet$Sheet;)V" } : Jvm.MethodName)) ∈ TW := TWm 855 (by decide +kernel) (by decide +kernel)
theorem mw_863 : (Jvm.Cond.methodLink "CrossedSheet" (303 : Nat) ({ cls := "CrossedSheet$Shelf", name := "holds", desc := "(I)Z" } : Jvm.MethodName)) ∈ TW := TWm 863 (by decide +kernel) (by decide +kernel)
theorem mw_865 : (Jvm.Cond.methodLink "CrossedSheet" (308 : Nat) ({ cls := "CrossedSheet$Shelf", name := "fetch", desc := "(ILCrossedSheet$Sheet;)V" } : Jvm.MethodName)) ∈ TW := TWm 865 (by decide +kernel) (by decide +kernel)
theorem mw_879 : (Jvm.Cond.methodLink "CrossedSheet" (247 : Nat) ({ cls := "CrossedSheet", name := "splitSigns", desc := "(IJ)Z" } : Jvm.MethodName)) ∈ TW := TWm 879 (by decide +kernel) (by decide +kernel)
theorem mw_881 : (Jvm.Cond.instanceMethod ({ cls := "CrossedSheet", name := "splitSigns", desc := "(IJ)Z" } : Jvm.MethodName)) ∈ TW := TWm 881 (by decide +kernel) (by decide +kernel)
theorem mw_882 : (Jvm.Cond.code ({ cls := "CrossedSheet", name := "splitSigns", desc := "(IJ)Z" } : Jvm.MethodName) prog_1_method_44_code (9 : Nat) (Option.some Jvm.ClassFile.FieldType.boolean)) ∈ TW := TWm 882 (by decide +kernel) (by decide +kernel)
theorem mw_885 : (Jvm.Cond.methodLink "CrossedSheet" (256 : Nat) ({ cls := "CrossedSheet$Reading", name := "beginsWith", desc := "(ILCrossedSheet$Numbers;I)Z" } : Jvm.MethodName)) ∈ TW := TWm 885 (by decide +kernel) (by decide +kernel)
theorem mw_886 : (Jvm.Cond.instanceMethod ({ cls := "CrossedSheet$Reading", name := "beginsWith", desc := "(ILCrossedSheet$Numbers;I)Z" } : Jvm.MethodName)) ∈ TW := TWm 886 (by decide +kernel) (by decide +kernel)
theorem mw_887 : (Jvm.Cond.selects "CrossedSheet$Reading" ({ cls := "CrossedSheet$Reading", name := "beginsWith", desc := "(ILCrossedSheet$Numbers;I)Z" } : Jvm.MethodName) ({ cls := "CrossedSheet$Reading", name := "beginsWith", desc := "(ILCrossedSheet$Numbers;I)Z" } : Jvm.MethodName)) ∈ TW := TWm 887 (by decide +kernel) (by decide +kernel)
theorem mw_888 : (Jvm.Cond.code ({ cls := "CrossedSheet$Reading", name := "beginsWith", desc := "(ILCrossedSheet$Numbers;I)Z" } : Jvm.MethodName) prog_4_method_10_code (5 : Nat) (Option.some Jvm.ClassFile.FieldType.boolean)) ∈ TW := TWm 888 (by decide +kernel) (by decide +kernel)
theorem mw_927 : (Jvm.Cond.methodLink "CrossedSheet" (280 : Nat) ({ cls := "CrossedSheet", name := "splitScript", desc := "(IJ)Z" } : Jvm.MethodName)) ∈ TW := TWm 927 (by decide +kernel) (by decide +kernel)
theorem mw_929 : (Jvm.Cond.instanceMethod ({ cls := "CrossedSheet", name := "splitScript", desc := "(IJ)Z" } : Jvm.MethodName)) ∈ TW := TWm 929 (by decide +kernel) (by decide +kernel)
theorem mw_930 : (Jvm.Cond.code ({ cls := "CrossedSheet", name := "splitScript", desc := "(IJ)Z" } : Jvm.MethodName) prog_1_method_45_code (7 : Nat) (Option.some Jvm.ClassFile.FieldType.boolean)) ∈ TW := TWm 930 (by decide +kernel) (by decide +kernel)
theorem mw_933 : (Jvm.Cond.methodLink "CrossedSheet" (285 : Nat) ({ cls := "CrossedSheet", name := "succeeds", desc := "(I)Z" } : Jvm.MethodName)) ∈ TW := TWm 933 (by decide +kernel) (by decide +kernel)
theorem mw_935 : (Jvm.Cond.instanceMethod ({ cls := "CrossedSheet", name := "succeeds", desc := "(I)Z" } : Jvm.MethodName)) ∈ TW := TWm 935 (by decide +kernel) (by decide +kernel)
theorem mw_936 : (Jvm.Cond.code ({ cls := "CrossedSheet", name := "succeeds", desc := "(I)Z" } : Jvm.MethodName) prog_1_method_46_code (7 : Nat) (Option.some Jvm.ClassFile.FieldType.boolean)) ∈ TW := TWm 936 (by decide +kernel) (by decide +kernel)
theorem fl_X6_239 : zF RX6 239 0 0 .int false := ⟨RX0, TX0, 3, tyX0, rfl, inTX0, by decide, mw_197, by decide +kernel, tyX0_ok, nmX0, rfl⟩
theorem fl_X6_253 : zF RX6 253 2 0 .int false := ⟨RX2, TX2, 9, tyX2, rfl, inTX2, by decide, mw_218, by decide +kernel, tyX2_ok, nmX2, rfl⟩
theorem yv_X0_takeBack : yX0_takeBack.cls = RX0 ∧ yX0_takeBack.cls ≠ "java/lang/invoke/MethodHandle" ∧ yX0_takeBack.cls ≠ "java/lang/invoke/VarHandle" ∧ (parseMethodDescriptor yX0_takeBack.desc).map (fun d => d.parameters.length) = some 1 := by decide +kernel
theorem yv_X2_beginsWith : yX2_beginsWith.cls = RX2 ∧ yX2_beginsWith.cls ≠ "java/lang/invoke/MethodHandle" ∧ yX2_beginsWith.cls ≠ "java/lang/invoke/VarHandle" ∧ (parseMethodDescriptor yX2_beginsWith.desc).map (fun d => d.parameters.length) = some 3 := by decide +kernel
theorem yv_X2_countSign : yX2_countSign.cls = RX2 ∧ yX2_countSign.cls ≠ "java/lang/invoke/MethodHandle" ∧ yX2_countSign.cls ≠ "java/lang/invoke/VarHandle" ∧ (parseMethodDescriptor yX2_countSign.desc).map (fun d => d.parameters.length) = some 1 := by decide +kernel
theorem yv_X3_firstToDecide : yX3_firstToDecide.cls = RX3 ∧ yX3_firstToDecide.cls ≠ "java/lang/invoke/MethodHandle" ∧ yX3_firstToDecide.cls ≠ "java/lang/invoke/VarHandle" ∧ (parseMethodDescriptor yX3_firstToDecide.desc).map (fun d => d.parameters.length) = some 3 := by decide +kernel
theorem yv_X3_putPen : yX3_putPen.cls = RX3 ∧ yX3_putPen.cls ≠ "java/lang/invoke/MethodHandle" ∧ yX3_putPen.cls ≠ "java/lang/invoke/VarHandle" ∧ (parseMethodDescriptor yX3_putPen.desc).map (fun d => d.parameters.length) = some 3 := by decide +kernel
theorem ys_X6_checkSlot : yX6_checkSlot.cls ≠ "java/lang/invoke/MethodHandle" ∧ yX6_checkSlot.cls ≠ "java/lang/invoke/VarHandle" ∧ (parseMethodDescriptor yX6_checkSlot.desc).map (fun d => d.parameters.length) = some 1 := by decide +kernel
theorem yv_X6_playRound : yX6_playRound.cls = RX6 ∧ yX6_playRound.cls ≠ "java/lang/invoke/MethodHandle" ∧ yX6_playRound.cls ≠ "java/lang/invoke/VarHandle" ∧ (parseMethodDescriptor yX6_playRound.desc).map (fun d => d.parameters.length) = some 1 := by decide +kernel
theorem yv_X6_splitScript : yX6_splitScript.cls = RX6 ∧ yX6_splitScript.cls ≠ "java/lang/invoke/MethodHandle" ∧ yX6_splitScript.cls ≠ "java/lang/invoke/VarHandle" ∧ (parseMethodDescriptor yX6_splitScript.desc).map (fun d => d.parameters.length) = some 2 := by decide +kernel
theorem yv_X6_splitSigns : yX6_splitSigns.cls = RX6 ∧ yX6_splitSigns.cls ≠ "java/lang/invoke/MethodHandle" ∧ yX6_splitSigns.cls ≠ "java/lang/invoke/VarHandle" ∧ (parseMethodDescriptor yX6_splitSigns.desc).map (fun d => d.parameters.length) = some 2 := by decide +kernel
theorem yv_X6_succeeds : yX6_succeeds.cls = RX6 ∧ yX6_succeeds.cls ≠ "java/lang/invoke/MethodHandle" ∧ yX6_succeeds.cls ≠ "java/lang/invoke/VarHandle" ∧ (parseMethodDescriptor yX6_succeeds.desc).map (fun d => d.parameters.length) = some 1 := by decide +kernel
theorem ts_X6_251 : zTS RX6 "java/lang/IllegalArgumentException" "these are not signs" 193 251 197 := ⟨mw_296, mw_36, by decide +kernel, by decide +kernel, by decide +kernel, by decide +kernel, by decide +kernel, by decide +kernel⟩
theorem ts_X6_283 : zTS RX6 "java/lang/IllegalArgumentException" "the script is negative or too long" 193 283 197 := ⟨mw_296, mw_36, by decide +kernel, by decide +kernel, by decide +kernel, by decide +kernel, by decide +kernel, by decide +kernel⟩
theorem ts_X6_242 : zTS RX6 "java/lang/IllegalStateException" "no state is remembered" 76 242 80 := ⟨mw_491, mw_37, by decide +kernel, by decide +kernel, by decide +kernel, by decide +kernel, by decide +kernel, by decide +kernel⟩
theorem ts_X6_306 : zTS RX6 "java/lang/IllegalStateException" "nothing has been saved in this slot" 76 306 80 := ⟨mw_491, mw_37, by decide +kernel, by decide +kernel, by decide +kernel, by decide +kernel, by decide +kernel, by decide +kernel⟩
theorem ts_X6_321 : zTS RX6 "java/lang/IndexOutOfBoundsException" "no such save slot" 316 321 320 := ⟨mw_613, mw_40, by decide +kernel, by decide +kernel, by decide +kernel, by decide +kernel, by decide +kernel, by decide +kernel⟩
theorem cw_X6_244 : GoodIn TW (wsV RX6 244 RX0 yX0_takeBack (.code yX0_takeBack cX0_takeBack 2 none :: TW)) := zGV mw_789 mw_790 mw_791 mw_30 mw_792
theorem cw_X6_247 : GoodIn TW (wsV RX6 247 RX6 yX6_splitSigns (.code yX6_splitSigns cX6_splitSigns 9 (some .boolean) :: TW)) := zGV mw_879 mw_881 mw_16 mw_26 mw_882
theorem cw_X6_256 : GoodIn TW (wsV RX6 256 RX2 yX2_beginsWith (.code yX2_beginsWith cX2_beginsWith 5 (some .boolean) :: TW)) := zGV mw_885 mw_886 mw_887 mw_32 mw_888
theorem cw_X6_268 : GoodIn TW (wsV RX6 268 RX2 yX2_countSign (.code yX2_countSign cX2_countSign 4 (some .int) :: TW)) := zGV mw_809 mw_810 mw_811 mw_32 mw_812
theorem cw_X6_271 : GoodIn TW (wsV RX6 271 RX3 yX3_putPen (.code yX3_putPen cX3_putPen 4 none :: TW)) := zGV mw_820 mw_821 mw_822 mw_29 mw_823
theorem cw_X6_274 : GoodIn TW (wsV RX6 274 RX3 yX3_ownerOfFirst (.code yX3_ownerOfFirst cX3_ownerOfFirst 6 (some .int) :: TW)) := zGV mw_831 mw_432 mw_433 mw_29 mw_434
theorem cw_X6_277 : GoodIn TW (wsV RX6 277 RX3 yX3_firstToDecide (.code yX3_firstToDecide cX3_firstToDecide 5 (some .int) :: TW)) := zGV mw_832 mw_833 mw_834 mw_29 mw_835
theorem cw_X6_280 : GoodIn TW (wsV RX6 280 RX6 yX6_splitScript (.code yX6_splitScript cX6_splitScript 7 (some .boolean) :: TW)) := zGV mw_927 mw_929 mw_18 mw_26 mw_930
theorem cw_X6_285 : GoodIn TW (wsV RX6 285 RX6 yX6_succeeds (.code yX6_succeeds cX6_succeeds 7 (some .boolean) :: TW)) := zGV mw_933 mw_935 mw_19 mw_26 mw_936
theorem cw_X6_293 : GoodIn TW (wsV RX6 293 RX6 yX6_playRound (.code yX6_playRound cX6_playRound 4 none :: TW)) := zGV mw_377 mw_379 mw_1 mw_26 mw_380
theorem cw_X6_296 : GoodIn TW (va_wsS RX6 296 yX6_checkSlot (.code yX6_checkSlot cX6_checkSlot 1 none :: TW)) := zGS mw_851 mw_852 mw_26 mw_853
theorem cw_X6_299 : GoodIn TW (wsV RX6 299 RX4 yX4_store (.code yX4_store cX4_store 4 none :: TW)) := zGV mw_855 mw_727 mw_728 mw_31 mw_729
theorem cw_X6_303 : GoodIn TW (wsV RX6 303 RX4 yX4_holds (.code yX4_holds cX4_holds 2 (some .boolean) :: TW)) := zGV mw_863 mw_798 mw_799 mw_31 mw_800
theorem cw_X6_308 : GoodIn TW (wsV RX6 308 RX4 yX4_fetch (.code yX4_fetch cX4_fetch 4 none :: TW)) := zGV mw_865 mw_794 mw_795 mw_31 mw_796
theorem dX6_undo_0 : decode cX6_undo 0 = .ok (.aload_n 0, 1) := by decide +kernel
theorem dX6_undo_1 : decode cX6_undo 1 = .ok (.getfield 45, 3) := by decide +kernel
theorem dX6_undo_4 : decode cX6_undo 4 = .ok (.getfield 239, 3) := by decide +kernel
theorem dX6_undo_7 : decode cX6_undo 7 = .ok (.ifCond .ne 13, 3) := by decide +kernel
theorem dX6_undo_10 : decode cX6_undo 10 = .ok (.new 76, 3) := by decide +kernel
theorem dX6_undo_13 : decode cX6_undo 13 = .ok (.dup, 1) := by decide +kernel
theorem dX6_undo_14 : decode cX6_undo 14 = .ok (.ldc 242, 2) := by decide +kernel
theorem dX6_undo_16 : decode cX6_undo 16 = .ok (.invokespecial 80, 3) := by decide +kernel
theorem dX6_undo_19 : decode cX6_undo 19 = .ok (.athrow, 1) := by decide +kernel
theorem dX6_undo_20 : decode cX6_undo 20 = .ok (.aload_n 0, 1) := by decide +kernel
theorem dX6_undo_21 : decode cX6_undo 21 = .ok (.getfield 45, 3) := by decide +kernel
theorem dX6_undo_24 : decode cX6_undo 24 = .ok (.aload_n 0, 1) := by decide +kernel
theorem dX6_undo_25 : decode cX6_undo 25 = .ok (.getfield 32, 3) := by decide +kernel
theorem dX6_undo_28 : decode cX6_undo 28 = .ok (.invokevirtual 244, 3) := by decide +kernel
theorem dX6_undo_31 : decode cX6_undo 31 = .ok (.aload_n 0, 1) := by decide +kernel
theorem dX6_undo_32 : decode cX6_undo 32 = .ok (.getfield 45, 3) := by decide +kernel
theorem dX6_undo_35 : decode cX6_undo 35 = .ok (.getfield 239, 3) := by decide +kernel
theorem dX6_undo_38 : decode cX6_undo 38 = .ok (.ireturn, 1) := by decide +kernel
def FX6_undo (T : zT) (a0 : Nat) (h : zH) : Option (Except String Int32 × zH) := (zo h a0 6).bind fun _ => (zgr h a0 6 6).bind fun x1 => (zgi h x1 0 0).bind fun x2 => if x2 = 0 then (some (.error "java/lang/IllegalStateException", h)) else ((zgr h a0 6 6).bind fun x3 => (zgr h a0 6 3).bind fun x4 => (FX0_takeBack T x3 x4 h).bind fun h6 => (zgr h6 a0 6 6).bind fun x7 => (zgi h6 x7 0 0).bind fun x8 => some (.ok x8, h6))
set_option maxHeartbeats 4000000 in
set_option maxRecDepth 100000 in
theorem BX6_undo {X : zX} (CX : zCX X cX6_undo 1 RX6 "undo" (some .int) 6 112) {hi : Nat} {h : zH} {a0 : Nat} {r9 : (Except String Int32 × zH)} (hf : FX6_undo (xT X) a0 h = some r9) : zW X 1 (zZX X (zx cvI r9.1, r9.2)) 1 6 false hi h 0 [(0, .ref a0)] [] := by
  have C := CX.1
  unfold FX6_undo at hf
  obtain ⟨_, _, hf⟩ := zbind hf
  refine z_aload_n C dX6_undo_0 0 rfl rfl ?_
  refine z_getR C fl_X6_45 dX6_undo_1 hf (fun x1 hf => ?_)
  refine z_getI C fl_X6_239 dX6_undo_4 hf (fun x2 hf => ?_)
  refine z_if_ne (tgt := 20) C dX6_undo_7 (by decide) hf (fun hf => ?_) (fun hf => ?_)
  · refine z_aload_n C dX6_undo_20 0 rfl rfl ?_
    refine z_getR C fl_X6_45 dX6_undo_21 hf (fun x3 hf => ?_)
    refine z_aload_n C dX6_undo_24 0 rfl rfl ?_
    refine z_getR C fl_X6_32 dX6_undo_25 hf (fun x4 hf => ?_)
    obtain ⟨h6, g5, hf⟩ := zbind hf
    refine z_callV (kc' := 1) (ks' := 6) C (MX0_takeBack (xl X) (xD X) (xT X) (xlo X) hi g5) (OX0_takeBack g5) rfl cw_X6_244 yv_X0_takeBack dX6_undo_28 rfl (by decide) ⟨rfl, rfl⟩ (Nat.le_of_ble_eq_true rfl) (st := []) rfl ?_
    refine z_aload_n C dX6_undo_31 0 rfl rfl ?_
    refine z_getR C fl_X6_45 dX6_undo_32 hf (fun x7 hf => ?_)
    refine z_getI C fl_X6_239 dX6_undo_35 hf (fun x8 hf => ?_)
    exact z_ireturnX CX dX6_undo_38 (by cases hf; rfl)
  · exact z_throw CX ts_X6_242 dX6_undo_10 dX6_undo_13 dX6_undo_14 dX6_undo_16 dX6_undo_19 ⟨Nat.le_of_ble_eq_true rfl, Nat.le_of_ble_eq_true rfl⟩ ⟨by decide, by decide⟩ (by cases hf; rfl)
theorem MX6_undo (l : Launch) (hl9 : l.stackTraces = false) (D : va_G) (T : zT) (lo : Nat) (hi : Nat) {h : zH} {a0 : Nat} {x9 : Except String Int32} {h9 : zH} (hf : FX6_undo T a0 h = some (x9, h9)) : zMX l yX6_undo (.code yX6_undo cX6_undo 1 (some .int) :: TW) ({ frames := 6, cells := 1, slots := 6, locals := 112 } : Room) D T lo [.ref a0] hi h (zx cvI x9, h9) :=
  z_enterX hl9 (own := RX6) (nm := "undo") (lv := [(0, .ref a0)]) (by decide +kernel) rfl rfl (Nat.le_of_ble_eq_true rfl) rfl (fun _ _ _ _ _ _ _ _ C => BX6_undo C hf)
theorem OX6_undo {T : zT} {h : zH} {a0 : Nat} {r9 : (Except String Int32 × zH)} (hf : FX6_undo T a0 h = some r9) : ∃ fs, h a0 = some (.inr (6, fs)) := by
  obtain ⟨_, h1, _⟩ := zbind hf
  exact zo_obj h1
theorem dX6_find_0 : decode cX6_find 0 = .ok (.iload_n 1, 1) := by decide +kernel
theorem dX6_find_1 : decode cX6_find 1 = .ok (.invokestatic 134, 3) := by decide +kernel
theorem dX6_find_4 : decode cX6_find 4 = .ok (.iload_n 2, 1) := by decide +kernel
theorem dX6_find_5 : decode cX6_find 5 = .ok (.iconst 1, 1) := by decide +kernel
theorem dX6_find_6 : decode cX6_find 6 = .ok (.bipush 8, 2) := by decide +kernel
theorem dX6_find_8 : decode cX6_find 8 = .ok (.invokestatic 72, 3) := by decide +kernel
theorem dX6_find_11 : decode cX6_find 11 = .ok (.aload_n 0, 1) := by decide +kernel
theorem dX6_find_12 : decode cX6_find 12 = .ok (.iload_n 2, 1) := by decide +kernel
theorem dX6_find_13 : decode cX6_find 13 = .ok (.lload_n 3, 1) := by decide +kernel
theorem dX6_find_14 : decode cX6_find 14 = .ok (.invokevirtual 247, 3) := by decide +kernel
theorem dX6_find_17 : decode cX6_find 17 = .ok (.ifCond .ne 13, 3) := by decide +kernel
theorem dX6_find_20 : decode cX6_find 20 = .ok (.new 193, 3) := by decide +kernel
theorem dX6_find_23 : decode cX6_find 23 = .ok (.dup, 1) := by decide +kernel
theorem dX6_find_24 : decode cX6_find 24 = .ok (.ldc 251, 2) := by decide +kernel
theorem dX6_find_26 : decode cX6_find 26 = .ok (.invokespecial 197, 3) := by decide +kernel
theorem dX6_find_29 : decode cX6_find 29 = .ok (.athrow, 1) := by decide +kernel
theorem dX6_find_30 : decode cX6_find 30 = .ok (.aload_n 0, 1) := by decide +kernel
theorem dX6_find_31 : decode cX6_find 31 = .ok (.iload_n 1, 1) := by decide +kernel
theorem dX6_find_32 : decode cX6_find 32 = .ok (.invokevirtual 127, 3) := by decide +kernel
theorem dX6_find_35 : decode cX6_find 35 = .ok (.pop, 1) := by decide +kernel
theorem dX6_find_36 : decode cX6_find 36 = .ok (.iconst 0, 1) := by decide +kernel
theorem dX6_find_37 : decode cX6_find 37 = .ok (.istore 5, 2) := by decide +kernel
theorem dX6_find_39 : decode cX6_find 39 = .ok (.iload 5, 2) := by decide +kernel
theorem dX6_find_41 : decode cX6_find 41 = .ok (.aload_n 0, 1) := by decide +kernel
theorem dX6_find_42 : decode cX6_find 42 = .ok (.getfield 59, 3) := by decide +kernel
theorem dX6_find_45 : decode cX6_find 45 = .ok (.getfield 253, 3) := by decide +kernel
theorem dX6_find_48 : decode cX6_find 48 = .ok (.if_icmp .ge 29, 3) := by decide +kernel
theorem dX6_find_51 : decode cX6_find 51 = .ok (.aload_n 0, 1) := by decide +kernel
theorem dX6_find_52 : decode cX6_find 52 = .ok (.getfield 59, 3) := by decide +kernel
theorem dX6_find_55 : decode cX6_find 55 = .ok (.iload 5, 2) := by decide +kernel
theorem dX6_find_57 : decode cX6_find 57 = .ok (.aload_n 0, 1) := by decide +kernel
theorem dX6_find_58 : decode cX6_find 58 = .ok (.getfield 66, 3) := by decide +kernel
theorem dX6_find_61 : decode cX6_find 61 = .ok (.iload_n 2, 1) := by decide +kernel
theorem dX6_find_62 : decode cX6_find 62 = .ok (.invokevirtual 256, 3) := by decide +kernel
theorem dX6_find_65 : decode cX6_find 65 = .ok (.ifCond .eq 6, 3) := by decide +kernel
theorem dX6_find_68 : decode cX6_find 68 = .ok (.iload 5, 2) := by decide +kernel
theorem dX6_find_70 : decode cX6_find 70 = .ok (.ireturn, 1) := by decide +kernel
theorem dX6_find_71 : decode cX6_find 71 = .ok (.iinc 5 1, 3) := by decide +kernel
theorem dX6_find_74 : decode cX6_find 74 = .ok (.goto (-35), 3) := by decide +kernel
theorem dX6_find_77 : decode cX6_find 77 = .ok (.bipush (-9), 2) := by decide +kernel
theorem dX6_find_79 : decode cX6_find 79 = .ok (.ireturn, 1) := by decide +kernel
def LX6_find_39 {ρ : Type} (T : zT) (h16 : zH) (x13 : Nat) (x14 : Int32) (K0 : Int32 → Option ρ) (K1 : Unit → Option ρ) : Nat → Int32 → Option ρ
  | 0, _ => none
  | k + 1, x15 => (zgr h16 x13 6 8).bind fun x17 => (zgi h16 x17 2 0).bind fun x18 => if x18 ≤ x15 then (K1 ()) else ((zgr h16 x13 6 8).bind fun x19 => (zgr h16 x13 6 10).bind fun x20 => (FX2_beginsWith T x19 x15 x20 x14 h16).bind fun x22 => if x22 = 0 then (LX6_find_39 T h16 x13 x14 K0 K1 k (x15 + 1)) else (K0 x15))
set_option maxHeartbeats 4000000 in
set_option maxRecDepth 100000 in
theorem LX6_find_39_ok {X : zX} (C : zC X cX6_find 6 RX6 "find" (some .int) 7 148) {Z : State → Prop} {hi : Nat} {ρ : Type} {r9 : ρ} {h16 : zH} {x13 : Nat} {x14 : Int32} {K0 : Int32 → Option ρ} {K1 : Unit → Option ρ} (hK0 : ∀ (y5 : Int32), K0 y5 = some r9 → zW X 6 Z 0 0 false hi h16 68 [(5, .int y5)] []) (hK1 : ∀ (u9 : Unit), K1 u9 = some r9 → zW X 6 Z 0 0 false hi h16 77 [] []) : ∀ (k : Nat) (x15 : Int32), LX6_find_39 (xT X) h16 x13 x14 K0 K1 k x15 = some r9 → zW X 6 Z 0 0 false hi h16 39 [(0, .ref x13), (2, .int x14), (5, .int x15)] [] := by
  intro k
  induction k with
  | zero =>
    intro x15 hf
    have hf : none = some r9 := hf
    cases hf
  | succ k ih =>
    intro x15 hf
    rw [LX6_find_39.eq_2] at hf
    refine z_iload C dX6_find_39 2 rfl ?_
    refine z_aload_n C dX6_find_41 0 rfl rfl ?_
    refine z_getR C fl_X6_59 dX6_find_42 hf (fun x17 hf => ?_)
    refine z_getI C fl_X6_253 dX6_find_45 hf (fun x18 hf => ?_)
    refine z_icmp_ge (tgt := 77) C dX6_find_48 (by decide) hf (fun hf => ?_) (fun hf => ?_)
    · refine z_sub [] rfl ?_
      exact hK1 _ hf
    · refine z_aload_n C dX6_find_51 0 rfl rfl ?_
      refine z_getR C fl_X6_59 dX6_find_52 hf (fun x19 hf => ?_)
      refine z_iload C dX6_find_55 2 rfl ?_
      refine z_aload_n C dX6_find_57 0 rfl rfl ?_
      refine z_getR C fl_X6_66 dX6_find_58 hf (fun x20 hf => ?_)
      refine z_iload_n C dX6_find_61 1 rfl rfl ?_
      obtain ⟨x22, g21, hf⟩ := zbind hf
      refine z_callV (kc' := 0) (ks' := 0) C (MX2_beginsWith (xl X) (xD X) (xT X) (xlo X) false hi g21) (OX2_beginsWith g21) rfl cw_X6_256 yv_X2_beginsWith dX6_find_62 rfl (by decide) ⟨rfl, rfl⟩ (Nat.le_of_ble_eq_true rfl) (st := []) rfl ?_
      refine z_if_eq (tgt := 71) C dX6_find_65 (by decide) hf (fun hf => ?_) (fun hf => ?_)
      · refine z_iinc C dX6_find_71 (k := 2) (d := 1) rfl (by decide) (by decide) (lv' := [(5, .int (x15 + 1)), (0, .ref x13), (2, .int x14)]) rfl ?_
        refine z_goto (tgt := 39) C dX6_find_74 (by decide) ?_
        refine z_sub [1, 2, 0] rfl ?_
        exact ih _ hf
      · refine z_sub [2] rfl ?_
        exact hK0 _ hf
def FX6_find (T : zT) (a0 : Nat) (p0 : Int32) (p1 : Int32) (p2 : Int64) (h : zH) : Option (Except String Int32 × zH) := (zo h a0 6).bind fun _ => zbx (FX6_checkLetter T p0 h) fun x2 h3 => zbx (FX6_checkArgument T p1 1 8 h3) fun x5 h6 => zb2 (FX6_splitSigns T a0 p1 p2 h6) fun x8 h9 => if x8 = 0 then (some (.error "java/lang/IllegalArgumentException", h9)) else (zb2 (FX6_readPresent T a0 p0 h9) fun x11 h12 => LX6_find_39 T h12 a0 p1 (fun (x23 : Int32) => some (.ok x23, h12)) (fun (u9 : Unit) => some (.ok (-9 : Int32), h12)) FUEL 0)
set_option maxHeartbeats 4000000 in
set_option maxRecDepth 100000 in
theorem BX6_find {X : zX} (CX : zCX X cX6_find 6 RX6 "find" (some .int) 7 148) {hi : Nat} {h : zH} {a0 : Nat} {p0 : Int32} {p1 : Int32} {p2 : Int64} {r9 : (Except String Int32 × zH)} (hf : FX6_find (xT X) a0 p0 p1 p2 h = some r9) : zW X 6 (zZX X (zx cvI r9.1, r9.2)) 3 18 false hi h 0 [(0, .ref a0), (1, .int p0), (2, .int p1), (3, .long p2)] [] := by
  have C := CX.1
  unfold FX6_find at hf
  obtain ⟨_, _, hf⟩ := zbind hf
  refine z_iload_n C dX6_find_0 1 rfl rfl ?_
  refine z_callSX (kc' := 2) (ks' := 12) CX hf (fun _ _ e => MX6_checkLetter (xl X) CX.2.2.2 (xD X) (xT X) (xlo X) hi e) cw_X6_134 ys_X6_checkLetter dX6_find_1 rfl (by decide) ⟨rfl, rfl⟩ (Nat.le_of_ble_eq_true rfl) (st := []) rfl (fun x2 h3 hf => ?_)
  refine z_iload_n C dX6_find_4 2 rfl rfl ?_
  refine z_iconst C (v := 1) dX6_find_5 (by decide) ?_
  refine z_bipush C (v := 8) dX6_find_6 (by decide) ?_
  refine z_callSX (kc' := 1) (ks' := 6) CX hf (fun _ _ e => MX6_checkArgument (xl X) CX.2.2.2 (xD X) (xT X) (xlo X) hi e) cw_X6_72 ys_X6_checkArgument dX6_find_8 rfl (by decide) ⟨rfl, rfl⟩ (Nat.le_of_ble_eq_true rfl) (st := []) rfl (fun x5 h6 hf => ?_)
  refine z_aload_n C dX6_find_11 0 rfl rfl ?_
  refine z_iload_n C dX6_find_12 2 rfl rfl ?_
  refine z_lload_n C dX6_find_13 3 rfl rfl ?_
  obtain ⟨x8, h9, g7, hf⟩ := zbind2 hf
  refine z_callV (kc' := 1) (ks' := 6) C (MX6_splitSigns (xl X) (xD X) (xT X) (xlo X) false hi g7) (OX6_splitSigns g7) rfl cw_X6_247 yv_X6_splitSigns dX6_find_14 rfl (by decide) ⟨rfl, rfl⟩ (Nat.le_of_ble_eq_true rfl) (st := []) rfl ?_
  refine z_if_ne (tgt := 30) C dX6_find_17 (by decide) hf (fun hf => ?_) (fun hf => ?_)
  · refine z_aload_n C dX6_find_30 0 rfl rfl ?_
    refine z_iload_n C dX6_find_31 1 rfl rfl ?_
    obtain ⟨x11, h12, g10, hf⟩ := zbind2 hf
    refine z_callV (kc' := 1) (ks' := 6) C (MX6_readPresent (xl X) (xD X) (xT X) (xlo X) false hi g10) (OX6_readPresent g10) rfl cw_X6_127 yv_X6_readPresent dX6_find_32 rfl (by decide) ⟨rfl, rfl⟩ (Nat.le_of_ble_eq_true rfl) (st := []) rfl ?_
    refine z_pop C dX6_find_35 rfl ?_
    refine z_iconst C (v := 0) dX6_find_36 (by decide) ?_
    refine z_istore C dX6_find_37 (by decide) (lv' := [(5, .int 0), (0, .ref a0), (1, .int p0), (2, .int p1), (3, .long p2)]) rfl ?_
    refine z_less (kc' := 0) (ks' := 0) (by decide) (by decide) ?_
    refine z_sub [1, 3, 0] rfl ?_
    refine LX6_find_39_ok C ?_ ?_ FUEL _ hf
    · intro x23 hf
      refine z_iload C dX6_find_68 0 rfl ?_
      exact z_ireturnX CX dX6_find_70 (by cases hf; rfl)
    · intro u9 hf
      refine z_bipush C (v := (-9 : Int32)) dX6_find_77 (by decide) ?_
      exact z_ireturnX CX dX6_find_79 (by cases hf; rfl)
  · exact z_throw CX ts_X6_251 dX6_find_20 dX6_find_23 dX6_find_24 dX6_find_26 dX6_find_29 ⟨Nat.le_of_ble_eq_true rfl, Nat.le_of_ble_eq_true rfl⟩ ⟨by decide, by decide⟩ (by cases hf; rfl)
theorem MX6_find (l : Launch) (hl9 : l.stackTraces = false) (D : va_G) (T : zT) (lo : Nat) (hi : Nat) {h : zH} {a0 : Nat} {p0 : Int32} {p1 : Int32} {p2 : Int64} {x9 : Except String Int32} {h9 : zH} (hf : FX6_find T a0 p0 p1 p2 h = some (x9, h9)) : zMX l yX6_find (.code yX6_find cX6_find 6 (some .int) :: TW) ({ frames := 7, cells := 3, slots := 18, locals := 148 } : Room) D T lo [.ref a0, .int p0, .int p1, .long p2] hi h (zx cvI x9, h9) :=
  z_enterX hl9 (own := RX6) (nm := "find") (lv := [(0, .ref a0), (1, .int p0), (2, .int p1), (3, .long p2)]) (by decide +kernel) rfl rfl (Nat.le_of_ble_eq_true rfl) rfl (fun _ _ _ _ _ _ _ _ C => BX6_find C hf)
theorem OX6_find {T : zT} {h : zH} {a0 : Nat} {p0 : Int32} {p1 : Int32} {p2 : Int64} {r9 : (Except String Int32 × zH)} (hf : FX6_find T a0 p0 p1 p2 h = some r9) : ∃ fs, h a0 = some (.inr (6, fs)) := by
  obtain ⟨_, h1, _⟩ := zbind hf
  exact zo_obj h1
theorem dX6_count_0 : decode cX6_count 0 = .ok (.iload_n 1, 1) := by decide +kernel
theorem dX6_count_1 : decode cX6_count 1 = .ok (.invokestatic 134, 3) := by decide +kernel
theorem dX6_count_4 : decode cX6_count 4 = .ok (.iload_n 2, 1) := by decide +kernel
theorem dX6_count_5 : decode cX6_count 5 = .ok (.iconst 0, 1) := by decide +kernel
theorem dX6_count_6 : decode cX6_count 6 = .ok (.bipush 26, 2) := by decide +kernel
theorem dX6_count_8 : decode cX6_count 8 = .ok (.invokestatic 72, 3) := by decide +kernel
theorem dX6_count_11 : decode cX6_count 11 = .ok (.aload_n 0, 1) := by decide +kernel
theorem dX6_count_12 : decode cX6_count 12 = .ok (.iload_n 1, 1) := by decide +kernel
theorem dX6_count_13 : decode cX6_count 13 = .ok (.invokevirtual 127, 3) := by decide +kernel
theorem dX6_count_16 : decode cX6_count 16 = .ok (.pop, 1) := by decide +kernel
theorem dX6_count_17 : decode cX6_count 17 = .ok (.aload_n 0, 1) := by decide +kernel
theorem dX6_count_18 : decode cX6_count 18 = .ok (.getfield 59, 3) := by decide +kernel
theorem dX6_count_21 : decode cX6_count 21 = .ok (.iload_n 2, 1) := by decide +kernel
theorem dX6_count_22 : decode cX6_count 22 = .ok (.invokevirtual 268, 3) := by decide +kernel
theorem dX6_count_25 : decode cX6_count 25 = .ok (.ireturn, 1) := by decide +kernel
def FX6_count (T : zT) (a0 : Nat) (p0 : Int32) (p1 : Int32) (h : zH) : Option (Except String Int32 × zH) := (zo h a0 6).bind fun _ => zbx (FX6_checkLetter T p0 h) fun x2 h3 => zbx (FX6_checkArgument T p1 0 26 h3) fun x5 h6 => zb2 (FX6_readPresent T a0 p0 h6) fun x8 h9 => (zgr h9 a0 6 8).bind fun x10 => (FX2_countSign T x10 p1 h9).bind fun x12 => some (.ok x12, h9)
set_option maxHeartbeats 4000000 in
set_option maxRecDepth 100000 in
theorem BX6_count {X : zX} (CX : zCX X cX6_count 3 RX6 "count" (some .int) 7 148) {hi : Nat} {h : zH} {a0 : Nat} {p0 : Int32} {p1 : Int32} {r9 : (Except String Int32 × zH)} (hf : FX6_count (xT X) a0 p0 p1 h = some r9) : zW X 3 (zZX X (zx cvI r9.1, r9.2)) 2 12 false hi h 0 [(0, .ref a0), (1, .int p0), (2, .int p1)] [] := by
  have C := CX.1
  unfold FX6_count at hf
  obtain ⟨_, _, hf⟩ := zbind hf
  refine z_iload_n C dX6_count_0 1 rfl rfl ?_
  refine z_callSX (kc' := 1) (ks' := 6) CX hf (fun _ _ e => MX6_checkLetter (xl X) CX.2.2.2 (xD X) (xT X) (xlo X) hi e) cw_X6_134 ys_X6_checkLetter dX6_count_1 rfl (by decide) ⟨rfl, rfl⟩ (Nat.le_of_ble_eq_true rfl) (st := []) rfl (fun x2 h3 hf => ?_)
  refine z_iload_n C dX6_count_4 2 rfl rfl ?_
  refine z_iconst C (v := 0) dX6_count_5 (by decide) ?_
  refine z_bipush C (v := 26) dX6_count_6 (by decide) ?_
  refine z_callSX (kc' := 0) (ks' := 0) CX hf (fun _ _ e => MX6_checkArgument (xl X) CX.2.2.2 (xD X) (xT X) (xlo X) hi e) cw_X6_72 ys_X6_checkArgument dX6_count_8 rfl (by decide) ⟨rfl, rfl⟩ (Nat.le_of_ble_eq_true rfl) (st := []) rfl (fun x5 h6 hf => ?_)
  refine z_aload_n C dX6_count_11 0 rfl rfl ?_
  refine z_iload_n C dX6_count_12 1 rfl rfl ?_
  obtain ⟨x8, h9, g7, hf⟩ := zbind2 hf
  refine z_callV (kc' := 0) (ks' := 0) C (MX6_readPresent (xl X) (xD X) (xT X) (xlo X) false hi g7) (OX6_readPresent g7) rfl cw_X6_127 yv_X6_readPresent dX6_count_13 rfl (by decide) ⟨rfl, rfl⟩ (Nat.le_of_ble_eq_true rfl) (st := []) rfl ?_
  refine z_pop C dX6_count_16 rfl ?_
  refine z_aload_n C dX6_count_17 0 rfl rfl ?_
  refine z_getR C fl_X6_59 dX6_count_18 hf (fun x10 hf => ?_)
  refine z_iload_n C dX6_count_21 2 rfl rfl ?_
  obtain ⟨x12, g11, hf⟩ := zbind hf
  refine z_callV (kc' := 0) (ks' := 0) C (MX2_countSign (xl X) (xD X) (xT X) (xlo X) false hi g11) (OX2_countSign g11) rfl cw_X6_268 yv_X2_countSign dX6_count_22 rfl (by decide) ⟨rfl, rfl⟩ (Nat.le_of_ble_eq_true rfl) (st := []) rfl ?_
  exact z_ireturnX CX dX6_count_25 (by cases hf; rfl)
theorem MX6_count (l : Launch) (hl9 : l.stackTraces = false) (D : va_G) (T : zT) (lo : Nat) (hi : Nat) {h : zH} {a0 : Nat} {p0 : Int32} {p1 : Int32} {x9 : Except String Int32} {h9 : zH} (hf : FX6_count T a0 p0 p1 h = some (x9, h9)) : zMX l yX6_count (.code yX6_count cX6_count 3 (some .int) :: TW) ({ frames := 7, cells := 2, slots := 12, locals := 148 } : Room) D T lo [.ref a0, .int p0, .int p1] hi h (zx cvI x9, h9) :=
  z_enterX hl9 (own := RX6) (nm := "count") (lv := [(0, .ref a0), (1, .int p0), (2, .int p1)]) (by decide +kernel) rfl rfl (Nat.le_of_ble_eq_true rfl) rfl (fun _ _ _ _ _ _ _ _ C => BX6_count C hf)
theorem OX6_count {T : zT} {h : zH} {a0 : Nat} {p0 : Int32} {p1 : Int32} {r9 : (Except String Int32 × zH)} (hf : FX6_count T a0 p0 p1 h = some r9) : ∃ fs, h a0 = some (.inr (6, fs)) := by
  obtain ⟨_, h1, _⟩ := zbind hf
  exact zo_obj h1
theorem dX6_bestPen_0 : decode cX6_bestPen 0 = .ok (.iload_n 1, 1) := by decide +kernel
theorem dX6_bestPen_1 : decode cX6_bestPen 1 = .ok (.invokestatic 134, 3) := by decide +kernel
theorem dX6_bestPen_4 : decode cX6_bestPen 4 = .ok (.aload_n 0, 1) := by decide +kernel
theorem dX6_bestPen_5 : decode cX6_bestPen 5 = .ok (.getfield 36, 3) := by decide +kernel
theorem dX6_bestPen_8 : decode cX6_bestPen 8 = .ok (.aload_n 0, 1) := by decide +kernel
theorem dX6_bestPen_9 : decode cX6_bestPen 9 = .ok (.getfield 32, 3) := by decide +kernel
theorem dX6_bestPen_12 : decode cX6_bestPen 12 = .ok (.invokevirtual 93, 3) := by decide +kernel
theorem dX6_bestPen_15 : decode cX6_bestPen 15 = .ok (.bipush (-9), 2) := by decide +kernel
theorem dX6_bestPen_17 : decode cX6_bestPen 17 = .ok (.istore_n 2, 1) := by decide +kernel
theorem dX6_bestPen_18 : decode cX6_bestPen 18 = .ok (.sipush 163, 3) := by decide +kernel
theorem dX6_bestPen_21 : decode cX6_bestPen 21 = .ok (.istore_n 3, 1) := by decide +kernel
theorem dX6_bestPen_22 : decode cX6_bestPen 22 = .ok (.iconst 0, 1) := by decide +kernel
theorem dX6_bestPen_23 : decode cX6_bestPen 23 = .ok (.istore 4, 2) := by decide +kernel
theorem dX6_bestPen_25 : decode cX6_bestPen 25 = .ok (.iload 4, 2) := by decide +kernel
theorem dX6_bestPen_27 : decode cX6_bestPen 27 = .ok (.iconst 3, 1) := by decide +kernel
theorem dX6_bestPen_28 : decode cX6_bestPen 28 = .ok (.if_icmp .gt 64, 3) := by decide +kernel
theorem dX6_bestPen_31 : decode cX6_bestPen 31 = .ok (.iconst 0, 1) := by decide +kernel
theorem dX6_bestPen_32 : decode cX6_bestPen 32 = .ok (.istore 5, 2) := by decide +kernel
theorem dX6_bestPen_34 : decode cX6_bestPen 34 = .ok (.iload 5, 2) := by decide +kernel
theorem dX6_bestPen_36 : decode cX6_bestPen 36 = .ok (.bipush 8, 2) := by decide +kernel
theorem dX6_bestPen_38 : decode cX6_bestPen 38 = .ok (.if_icmp .gt 48, 3) := by decide +kernel
theorem dX6_bestPen_41 : decode cX6_bestPen 41 = .ok (.aload_n 0, 1) := by decide +kernel
theorem dX6_bestPen_42 : decode cX6_bestPen 42 = .ok (.getfield 36, 3) := by decide +kernel
theorem dX6_bestPen_45 : decode cX6_bestPen 45 = .ok (.iload_n 1, 1) := by decide +kernel
theorem dX6_bestPen_46 : decode cX6_bestPen 46 = .ok (.iload 4, 2) := by decide +kernel
theorem dX6_bestPen_48 : decode cX6_bestPen 48 = .ok (.iload 5, 2) := by decide +kernel
theorem dX6_bestPen_50 : decode cX6_bestPen 50 = .ok (.invokevirtual 271, 3) := by decide +kernel
theorem dX6_bestPen_53 : decode cX6_bestPen 53 = .ok (.aload_n 0, 1) := by decide +kernel
theorem dX6_bestPen_54 : decode cX6_bestPen 54 = .ok (.getfield 36, 3) := by decide +kernel
theorem dX6_bestPen_57 : decode cX6_bestPen 57 = .ok (.invokevirtual 112, 3) := by decide +kernel
theorem dX6_bestPen_60 : decode cX6_bestPen 60 = .ok (.istore 6, 2) := by decide +kernel
theorem dX6_bestPen_62 : decode cX6_bestPen 62 = .ok (.iload 6, 2) := by decide +kernel
theorem dX6_bestPen_64 : decode cX6_bestPen 64 = .ok (.iload_n 3, 1) := by decide +kernel
theorem dX6_bestPen_65 : decode cX6_bestPen 65 = .ok (.if_icmp .ge 15, 3) := by decide +kernel
theorem dX6_bestPen_68 : decode cX6_bestPen 68 = .ok (.iload 6, 2) := by decide +kernel
theorem dX6_bestPen_70 : decode cX6_bestPen 70 = .ok (.istore_n 3, 1) := by decide +kernel
theorem dX6_bestPen_71 : decode cX6_bestPen 71 = .ok (.bipush 10, 2) := by decide +kernel
theorem dX6_bestPen_73 : decode cX6_bestPen 73 = .ok (.iload 4, 2) := by decide +kernel
theorem dX6_bestPen_75 : decode cX6_bestPen 75 = .ok (.imul, 1) := by decide +kernel
theorem dX6_bestPen_76 : decode cX6_bestPen 76 = .ok (.iload 5, 2) := by decide +kernel
theorem dX6_bestPen_78 : decode cX6_bestPen 78 = .ok (.iadd, 1) := by decide +kernel
theorem dX6_bestPen_79 : decode cX6_bestPen 79 = .ok (.istore_n 2, 1) := by decide +kernel
theorem dX6_bestPen_80 : decode cX6_bestPen 80 = .ok (.iinc 5 1, 3) := by decide +kernel
theorem dX6_bestPen_83 : decode cX6_bestPen 83 = .ok (.goto (-49), 3) := by decide +kernel
theorem dX6_bestPen_86 : decode cX6_bestPen 86 = .ok (.iinc 4 1, 3) := by decide +kernel
theorem dX6_bestPen_89 : decode cX6_bestPen 89 = .ok (.goto (-64), 3) := by decide +kernel
theorem dX6_bestPen_92 : decode cX6_bestPen 92 = .ok (.iload_n 2, 1) := by decide +kernel
theorem dX6_bestPen_93 : decode cX6_bestPen 93 = .ok (.ireturn, 1) := by decide +kernel
def LX6_bestPen_34 {ρ : Type} (T : zT) (x14 : Nat) (x15 : Int32) (x16 : Int32) (K0 : Int32 → Int32 → zH → Option ρ) : Nat → Int32 → Int32 → Int32 → zH → Option ρ
  | 0, _, _, _, _ => none
  | k + 1, x17, x18, x19, h20 => if 8 < x19 then (K0 x17 x18 h20) else (zJ (fun (x21 : Int32) (x22 : Int32) (h23 : zH) => LX6_bestPen_34 T x14 x15 x16 K0 k x21 x22 (x19 + 1) h23) (fun J24 => (zgr h20 x14 6 4).bind fun x25 => (FX3_putPen T x25 x15 x16 x19 h20).bind fun h27 => (zgr h27 x14 6 4).bind fun x28 => (FX3_countDoubtful T x28 h27).bind fun x30 => if x18 ≤ x30 then (J24 x17 x18 h27) else (J24 ((10 * x16) + x19) x30 h27)))
set_option maxHeartbeats 4000000 in
set_option maxRecDepth 100000 in
theorem LX6_bestPen_34_ok {X : zX} (C : zC X cX6_bestPen 7 RX6 "bestPen" (some .int) 7 118) {Z : State → Prop} {hi : Nat} {ρ : Type} {r9 : ρ} {x14 : Nat} {x15 : Int32} {x16 : Int32} {K0 : Int32 → Int32 → zH → Option ρ} (hK0 : ∀ (y2 : Int32) (y3 : Int32) (g9 : zH), K0 y2 y3 g9 = some r9 → zW X 7 Z 0 0 false hi g9 86 [(0, .ref x14), (1, .int x15), (2, .int y2), (3, .int y3), (4, .int x16)] []) : ∀ (k : Nat) (x17 : Int32) (x18 : Int32) (x19 : Int32) (h20 : zH), LX6_bestPen_34 (xT X) x14 x15 x16 K0 k x17 x18 x19 h20 = some r9 → zW X 7 Z 0 0 false hi h20 34 [(0, .ref x14), (1, .int x15), (2, .int x17), (3, .int x18), (4, .int x16), (5, .int x19)] [] := by
  intro k
  induction k with
  | zero =>
    intro x17 x18 x19 h20 hf
    have hf : none = some r9 := hf
    cases hf
  | succ k ih =>
    intro x17 x18 x19 h20 hf
    rw [LX6_bestPen_34.eq_2] at hf
    refine z_iload C dX6_bestPen_34 5 rfl ?_
    refine z_bipush C (v := 8) dX6_bestPen_36 (by decide) ?_
    refine z_icmp_gt (tgt := 86) C dX6_bestPen_38 (by decide) hf (fun hf => ?_) (fun hf => ?_)
    · refine z_sub [0, 1, 2, 3, 4] rfl ?_
      exact hK0 _ _ _ hf
    · refine z_join (P := fun J => ∀ (x21 : Int32) (x22 : Int32) (h23 : zH), J x21 x22 h23 = some r9 → zW X 7 Z 0 0 false hi h23 80 [(0, .ref x14), (1, .int x15), (2, .int x21), (3, .int x22), (4, .int x16), (5, .int x19)] []) hf ?_ ?_
      · intro x21 x22 h23 hf
        refine z_iinc C dX6_bestPen_80 (k := 5) (d := 1) rfl (by decide) (by decide) (lv' := [(5, .int (x19 + 1)), (0, .ref x14), (1, .int x15), (2, .int x21), (3, .int x22), (4, .int x16)]) rfl ?_
        refine z_goto (tgt := 34) C dX6_bestPen_83 (by decide) ?_
        refine z_sub [1, 2, 3, 4, 5, 0] rfl ?_
        exact ih _ _ _ _ hf
      · intro J24 kJ24 hf
        refine z_aload_n C dX6_bestPen_41 0 rfl rfl ?_
        refine z_getR C fl_X6_36 dX6_bestPen_42 hf (fun x25 hf => ?_)
        refine z_iload_n C dX6_bestPen_45 1 rfl rfl ?_
        refine z_iload C dX6_bestPen_46 4 rfl ?_
        refine z_iload C dX6_bestPen_48 5 rfl ?_
        obtain ⟨h27, g26, hf⟩ := zbind hf
        refine z_callV (kc' := 0) (ks' := 0) C (MX3_putPen (xl X) (xD X) (xT X) (xlo X) false hi g26) (OX3_putPen g26) rfl cw_X6_271 yv_X3_putPen dX6_bestPen_50 rfl (by decide) ⟨rfl, rfl⟩ (Nat.le_of_ble_eq_true rfl) (st := []) rfl ?_
        refine z_aload_n C dX6_bestPen_53 0 rfl rfl ?_
        refine z_getR C fl_X6_36 dX6_bestPen_54 hf (fun x28 hf => ?_)
        obtain ⟨x30, g29, hf⟩ := zbind hf
        refine z_callV (kc' := 0) (ks' := 0) C (MX3_countDoubtful (xl X) (xD X) (xT X) (xlo X) false hi g29) (OX3_countDoubtful g29) rfl cw_X6_112 yv_X3_countDoubtful dX6_bestPen_57 rfl (by decide) ⟨rfl, rfl⟩ (Nat.le_of_ble_eq_true rfl) (st := []) rfl ?_
        refine z_istore C dX6_bestPen_60 (by decide) (lv' := [(6, .int x30), (0, .ref x14), (1, .int x15), (2, .int x17), (3, .int x18), (4, .int x16), (5, .int x19)]) rfl ?_
        refine z_iload C dX6_bestPen_62 0 rfl ?_
        refine z_iload_n C dX6_bestPen_64 4 rfl rfl ?_
        refine z_icmp_ge (tgt := 80) C dX6_bestPen_65 (by decide) hf (fun hf => ?_) (fun hf => ?_)
        · refine z_sub [1, 2, 3, 4, 5, 6] rfl ?_
          exact kJ24 _ _ _ hf
        · refine z_iload C dX6_bestPen_68 0 rfl ?_
          refine z_istore_n C dX6_bestPen_70 rfl (by decide) (lv' := [(3, .int x30), (6, .int x30), (0, .ref x14), (1, .int x15), (2, .int x17), (4, .int x16), (5, .int x19)]) rfl ?_
          refine z_bipush C (v := 10) dX6_bestPen_71 (by decide) ?_
          refine z_iload C dX6_bestPen_73 5 rfl ?_
          refine z_imul C dX6_bestPen_75 ?_
          refine z_iload C dX6_bestPen_76 6 rfl ?_
          refine z_iadd C dX6_bestPen_78 ?_
          refine z_istore_n C dX6_bestPen_79 rfl (by decide) (lv' := [(2, .int ((10 * x16) + x19)), (3, .int x30), (6, .int x30), (0, .ref x14), (1, .int x15), (4, .int x16), (5, .int x19)]) rfl ?_
          refine z_sub [3, 4, 0, 1, 5, 6] rfl ?_
          exact kJ24 _ _ _ hf
def LX6_bestPen_25 {ρ : Type} (T : zT) (x8 : Nat) (x9 : Int32) (K0 : Int32 → zH → Option ρ) : Nat → Int32 → Int32 → Int32 → zH → Option ρ
  | 0, _, _, _, _ => none
  | k + 1, x10, x11, x12, h13 => if 3 < x12 then (K0 x10 h13) else (LX6_bestPen_34 T x8 x9 x12 (fun (x31 : Int32) (x32 : Int32) (h33 : zH) => LX6_bestPen_25 T x8 x9 K0 k x31 x32 (x12 + 1) h33) FUEL x10 x11 0 h13)
set_option maxHeartbeats 4000000 in
set_option maxRecDepth 100000 in
theorem LX6_bestPen_25_ok {X : zX} (C : zC X cX6_bestPen 7 RX6 "bestPen" (some .int) 7 118) {Z : State → Prop} {hi : Nat} {ρ : Type} {r9 : ρ} {x8 : Nat} {x9 : Int32} {K0 : Int32 → zH → Option ρ} (hK0 : ∀ (y2 : Int32) (g9 : zH), K0 y2 g9 = some r9 → zW X 7 Z 0 0 false hi g9 92 [(2, .int y2)] []) : ∀ (k : Nat) (x10 : Int32) (x11 : Int32) (x12 : Int32) (h13 : zH), LX6_bestPen_25 (xT X) x8 x9 K0 k x10 x11 x12 h13 = some r9 → zW X 7 Z 0 0 false hi h13 25 [(0, .ref x8), (1, .int x9), (2, .int x10), (3, .int x11), (4, .int x12)] [] := by
  intro k
  induction k with
  | zero =>
    intro x10 x11 x12 h13 hf
    have hf : none = some r9 := hf
    cases hf
  | succ k ih =>
    intro x10 x11 x12 h13 hf
    rw [LX6_bestPen_25.eq_2] at hf
    refine z_iload C dX6_bestPen_25 4 rfl ?_
    refine z_iconst C (v := 3) dX6_bestPen_27 (by decide) ?_
    refine z_icmp_gt (tgt := 92) C dX6_bestPen_28 (by decide) hf (fun hf => ?_) (fun hf => ?_)
    · refine z_sub [2] rfl ?_
      exact hK0 _ _ hf
    · refine z_iconst C (v := 0) dX6_bestPen_31 (by decide) ?_
      refine z_istore C dX6_bestPen_32 (by decide) (lv' := [(5, .int 0), (0, .ref x8), (1, .int x9), (2, .int x10), (3, .int x11), (4, .int x12)]) rfl ?_
      refine z_sub [1, 2, 3, 4, 5, 0] rfl ?_
      refine LX6_bestPen_34_ok C ?_ FUEL _ _ _ _ hf
      · intro x31 x32 h33 hf
        refine z_iinc C dX6_bestPen_86 (k := 4) (d := 1) rfl (by decide) (by decide) (lv' := [(4, .int (x12 + 1)), (0, .ref x8), (1, .int x9), (2, .int x31), (3, .int x32)]) rfl ?_
        refine z_goto (tgt := 25) C dX6_bestPen_89 (by decide) ?_
        refine z_sub [1, 2, 3, 4, 0] rfl ?_
        exact ih _ _ _ _ hf
def FX6_bestPen (T : zT) (a0 : Nat) (p0 : Int32) (h : zH) : Option (Except String Int32 × zH) := (zo h a0 6).bind fun _ => zbx (FX6_checkLetter T p0 h) fun x2 h3 => (zgr h3 a0 6 4).bind fun x4 => (zgr h3 a0 6 3).bind fun x5 => (FX3_takeFrom T x4 x5 h3).bind fun h7 => LX6_bestPen_25 T a0 p0 (fun (x34 : Int32) (h35 : zH) => some (.ok x34, h35)) FUEL (-9 : Int32) 163 0 h7
set_option maxHeartbeats 4000000 in
set_option maxRecDepth 100000 in
theorem BX6_bestPen {X : zX} (CX : zCX X cX6_bestPen 7 RX6 "bestPen" (some .int) 7 118) {hi : Nat} {h : zH} {a0 : Nat} {p0 : Int32} {r9 : (Except String Int32 × zH)} (hf : FX6_bestPen (xT X) a0 p0 h = some r9) : zW X 7 (zZX X (zx cvI r9.1, r9.2)) 1 6 false hi h 0 [(0, .ref a0), (1, .int p0)] [] := by
  have C := CX.1
  unfold FX6_bestPen at hf
  obtain ⟨_, _, hf⟩ := zbind hf
  refine z_iload_n C dX6_bestPen_0 1 rfl rfl ?_
  refine z_callSX (kc' := 0) (ks' := 0) CX hf (fun _ _ e => MX6_checkLetter (xl X) CX.2.2.2 (xD X) (xT X) (xlo X) hi e) cw_X6_134 ys_X6_checkLetter dX6_bestPen_1 rfl (by decide) ⟨rfl, rfl⟩ (Nat.le_of_ble_eq_true rfl) (st := []) rfl (fun x2 h3 hf => ?_)
  refine z_aload_n C dX6_bestPen_4 0 rfl rfl ?_
  refine z_getR C fl_X6_36 dX6_bestPen_5 hf (fun x4 hf => ?_)
  refine z_aload_n C dX6_bestPen_8 0 rfl rfl ?_
  refine z_getR C fl_X6_32 dX6_bestPen_9 hf (fun x5 hf => ?_)
  obtain ⟨h7, g6, hf⟩ := zbind hf
  refine z_callV (kc' := 0) (ks' := 0) C (MX3_takeFrom (xl X) (xD X) (xT X) (xlo X) hi g6) (OX3_takeFrom g6) rfl cw_X6_93 yv_X3_takeFrom dX6_bestPen_12 rfl (by decide) ⟨rfl, rfl⟩ (Nat.le_of_ble_eq_true rfl) (st := []) rfl ?_
  refine z_bipush C (v := (-9 : Int32)) dX6_bestPen_15 (by decide) ?_
  refine z_istore_n C dX6_bestPen_17 rfl (by decide) (lv' := [(2, .int (-9 : Int32)), (0, .ref a0), (1, .int p0)]) rfl ?_
  refine z_sipush C (v := 163) dX6_bestPen_18 (by decide) ?_
  refine z_istore_n C dX6_bestPen_21 rfl (by decide) (lv' := [(3, .int 163), (2, .int (-9 : Int32)), (0, .ref a0), (1, .int p0)]) rfl ?_
  refine z_iconst C (v := 0) dX6_bestPen_22 (by decide) ?_
  refine z_istore C dX6_bestPen_23 (by decide) (lv' := [(4, .int 0), (3, .int 163), (2, .int (-9 : Int32)), (0, .ref a0), (1, .int p0)]) rfl ?_
  refine z_sub [3, 4, 2, 1, 0] rfl ?_
  refine LX6_bestPen_25_ok C ?_ FUEL _ _ _ _ hf
  · intro x34 h35 hf
    refine z_iload_n C dX6_bestPen_92 0 rfl rfl ?_
    exact z_ireturnX CX dX6_bestPen_93 (by cases hf; rfl)
theorem MX6_bestPen (l : Launch) (hl9 : l.stackTraces = false) (D : va_G) (T : zT) (lo : Nat) (hi : Nat) {h : zH} {a0 : Nat} {p0 : Int32} {x9 : Except String Int32} {h9 : zH} (hf : FX6_bestPen T a0 p0 h = some (x9, h9)) : zMX l yX6_bestPen (.code yX6_bestPen cX6_bestPen 7 (some .int) :: TW) ({ frames := 7, cells := 1, slots := 6, locals := 118 } : Room) D T lo [.ref a0, .int p0] hi h (zx cvI x9, h9) :=
  z_enterX hl9 (own := RX6) (nm := "bestPen") (lv := [(0, .ref a0), (1, .int p0)]) (by decide +kernel) rfl rfl (Nat.le_of_ble_eq_true rfl) rfl (fun _ _ _ _ _ _ _ _ C => BX6_bestPen C hf)
theorem OX6_bestPen {T : zT} {h : zH} {a0 : Nat} {p0 : Int32} {r9 : (Except String Int32 × zH)} (hf : FX6_bestPen T a0 p0 h = some r9) : ∃ fs, h a0 = some (.inr (6, fs)) := by
  obtain ⟨_, h1, _⟩ := zbind hf
  exact zo_obj h1
theorem dX6_bestDecision_0 : decode cX6_bestDecision 0 = .ok (.iload_n 1, 1) := by decide +kernel
theorem dX6_bestDecision_1 : decode cX6_bestDecision 1 = .ok (.invokestatic 134, 3) := by decide +kernel
theorem dX6_bestDecision_4 : decode cX6_bestDecision 4 = .ok (.bipush (-9), 2) := by decide +kernel
theorem dX6_bestDecision_6 : decode cX6_bestDecision 6 = .ok (.istore_n 2, 1) := by decide +kernel
theorem dX6_bestDecision_7 : decode cX6_bestDecision 7 = .ok (.iconst (-1), 1) := by decide +kernel
theorem dX6_bestDecision_8 : decode cX6_bestDecision 8 = .ok (.istore_n 3, 1) := by decide +kernel
theorem dX6_bestDecision_9 : decode cX6_bestDecision 9 = .ok (.iconst 0, 1) := by decide +kernel
theorem dX6_bestDecision_10 : decode cX6_bestDecision 10 = .ok (.istore 4, 2) := by decide +kernel
theorem dX6_bestDecision_12 : decode cX6_bestDecision 12 = .ok (.iload 4, 2) := by decide +kernel
theorem dX6_bestDecision_14 : decode cX6_bestDecision 14 = .ok (.aload_n 0, 1) := by decide +kernel
theorem dX6_bestDecision_15 : decode cX6_bestDecision 15 = .ok (.getfield 32, 3) := by decide +kernel
theorem dX6_bestDecision_18 : decode cX6_bestDecision 18 = .ok (.getfield 106, 3) := by decide +kernel
theorem dX6_bestDecision_21 : decode cX6_bestDecision 21 = .ok (.if_icmp .ge 108, 3) := by decide +kernel
theorem dX6_bestDecision_24 : decode cX6_bestDecision 24 = .ok (.iconst 0, 1) := by decide +kernel
theorem dX6_bestDecision_25 : decode cX6_bestDecision 25 = .ok (.istore 5, 2) := by decide +kernel
theorem dX6_bestDecision_27 : decode cX6_bestDecision 27 = .ok (.iload 5, 2) := by decide +kernel
theorem dX6_bestDecision_29 : decode cX6_bestDecision 29 = .ok (.aload_n 0, 1) := by decide +kernel
theorem dX6_bestDecision_30 : decode cX6_bestDecision 30 = .ok (.getfield 32, 3) := by decide +kernel
theorem dX6_bestDecision_33 : decode cX6_bestDecision 33 = .ok (.getfield 109, 3) := by decide +kernel
theorem dX6_bestDecision_36 : decode cX6_bestDecision 36 = .ok (.if_icmp .ge 87, 3) := by decide +kernel
theorem dX6_bestDecision_39 : decode cX6_bestDecision 39 = .ok (.aload_n 0, 1) := by decide +kernel
theorem dX6_bestDecision_40 : decode cX6_bestDecision 40 = .ok (.getfield 32, 3) := by decide +kernel
theorem dX6_bestDecision_43 : decode cX6_bestDecision 43 = .ok (.iload 4, 2) := by decide +kernel
theorem dX6_bestDecision_45 : decode cX6_bestDecision 45 = .ok (.iload 5, 2) := by decide +kernel
theorem dX6_bestDecision_47 : decode cX6_bestDecision 47 = .ok (.invokevirtual 274, 3) := by decide +kernel
theorem dX6_bestDecision_50 : decode cX6_bestDecision 50 = .ok (.bipush (-9), 2) := by decide +kernel
theorem dX6_bestDecision_52 : decode cX6_bestDecision 52 = .ok (.if_icmp .ne 17, 3) := by decide +kernel
theorem dX6_bestDecision_55 : decode cX6_bestDecision 55 = .ok (.aload_n 0, 1) := by decide +kernel
theorem dX6_bestDecision_56 : decode cX6_bestDecision 56 = .ok (.getfield 32, 3) := by decide +kernel
theorem dX6_bestDecision_59 : decode cX6_bestDecision 59 = .ok (.iload 4, 2) := by decide +kernel
theorem dX6_bestDecision_61 : decode cX6_bestDecision 61 = .ok (.iload 5, 2) := by decide +kernel
theorem dX6_bestDecision_63 : decode cX6_bestDecision 63 = .ok (.invokevirtual 155, 3) := by decide +kernel
theorem dX6_bestDecision_66 : decode cX6_bestDecision 66 = .ok (.goto 4, 3) := by decide +kernel
theorem dX6_bestDecision_69 : decode cX6_bestDecision 69 = .ok (.iconst 0, 1) := by decide +kernel
theorem dX6_bestDecision_70 : decode cX6_bestDecision 70 = .ok (.istore 6, 2) := by decide +kernel
theorem dX6_bestDecision_72 : decode cX6_bestDecision 72 = .ok (.aload_n 0, 1) := by decide +kernel
theorem dX6_bestDecision_73 : decode cX6_bestDecision 73 = .ok (.getfield 32, 3) := by decide +kernel
theorem dX6_bestDecision_76 : decode cX6_bestDecision 76 = .ok (.iload 4, 2) := by decide +kernel
theorem dX6_bestDecision_78 : decode cX6_bestDecision 78 = .ok (.iload 5, 2) := by decide +kernel
theorem dX6_bestDecision_80 : decode cX6_bestDecision 80 = .ok (.iload_n 1, 1) := by decide +kernel
theorem dX6_bestDecision_81 : decode cX6_bestDecision 81 = .ok (.invokevirtual 277, 3) := by decide +kernel
theorem dX6_bestDecision_84 : decode cX6_bestDecision 84 = .ok (.istore 7, 2) := by decide +kernel
theorem dX6_bestDecision_86 : decode cX6_bestDecision 86 = .ok (.iload 7, 2) := by decide +kernel
theorem dX6_bestDecision_88 : decode cX6_bestDecision 88 = .ok (.bipush (-9), 2) := by decide +kernel
theorem dX6_bestDecision_90 : decode cX6_bestDecision 90 = .ok (.if_icmp .eq 27, 3) := by decide +kernel
theorem dX6_bestDecision_93 : decode cX6_bestDecision 93 = .ok (.iload 6, 2) := by decide +kernel
theorem dX6_bestDecision_95 : decode cX6_bestDecision 95 = .ok (.iload_n 3, 1) := by decide +kernel
theorem dX6_bestDecision_96 : decode cX6_bestDecision 96 = .ok (.if_icmp .le 21, 3) := by decide +kernel
theorem dX6_bestDecision_99 : decode cX6_bestDecision 99 = .ok (.iload 6, 2) := by decide +kernel
theorem dX6_bestDecision_101 : decode cX6_bestDecision 101 = .ok (.istore_n 3, 1) := by decide +kernel
theorem dX6_bestDecision_102 : decode cX6_bestDecision 102 = .ok (.bipush 100, 2) := by decide +kernel
theorem dX6_bestDecision_104 : decode cX6_bestDecision 104 = .ok (.iload 4, 2) := by decide +kernel
theorem dX6_bestDecision_106 : decode cX6_bestDecision 106 = .ok (.imul, 1) := by decide +kernel
theorem dX6_bestDecision_107 : decode cX6_bestDecision 107 = .ok (.bipush 10, 2) := by decide +kernel
theorem dX6_bestDecision_109 : decode cX6_bestDecision 109 = .ok (.iload 5, 2) := by decide +kernel
theorem dX6_bestDecision_111 : decode cX6_bestDecision 111 = .ok (.imul, 1) := by decide +kernel
theorem dX6_bestDecision_112 : decode cX6_bestDecision 112 = .ok (.iadd, 1) := by decide +kernel
theorem dX6_bestDecision_113 : decode cX6_bestDecision 113 = .ok (.iload 7, 2) := by decide +kernel
theorem dX6_bestDecision_115 : decode cX6_bestDecision 115 = .ok (.iadd, 1) := by decide +kernel
theorem dX6_bestDecision_116 : decode cX6_bestDecision 116 = .ok (.istore_n 2, 1) := by decide +kernel
theorem dX6_bestDecision_117 : decode cX6_bestDecision 117 = .ok (.iinc 5 1, 3) := by decide +kernel
theorem dX6_bestDecision_120 : decode cX6_bestDecision 120 = .ok (.goto (-93), 3) := by decide +kernel
theorem dX6_bestDecision_123 : decode cX6_bestDecision 123 = .ok (.iinc 4 1, 3) := by decide +kernel
theorem dX6_bestDecision_126 : decode cX6_bestDecision 126 = .ok (.goto (-114), 3) := by decide +kernel
theorem dX6_bestDecision_129 : decode cX6_bestDecision 129 = .ok (.iload_n 2, 1) := by decide +kernel
theorem dX6_bestDecision_130 : decode cX6_bestDecision 130 = .ok (.ireturn, 1) := by decide +kernel
def LX6_bestDecision_27 {ρ : Type} (T : zT) (h18 : zH) (x12 : Nat) (x13 : Int32) (x14 : Int32) (K0 : Int32 → Int32 → Option ρ) : Nat → Int32 → Int32 → Int32 → Option ρ
  | 0, _, _, _ => none
  | k + 1, x15, x16, x17 => (zgr h18 x12 6 3).bind fun x19 => (zgi h18 x19 3 1).bind fun x20 => if x20 ≤ x17 then (K0 x15 x16) else (zJ (fun (x21 : Int32) => zJ (fun (x23 : Int32) (x24 : Int32) => LX6_bestDecision_27 T h18 x12 x13 x14 K0 k x23 x24 (x17 + 1)) (fun J25 => (zgr h18 x12 6 3).bind fun x26 => (FX3_firstToDecide T x26 x14 x17 x13 h18).bind fun x28 => if x28 = (-9 : Int32) then (J25 x15 x16) else (if x21 ≤ x16 then (J25 x15 x16) else (J25 (((100 * x14) + (10 * x17)) + x28) x21)))) (fun J22 => (zgr h18 x12 6 3).bind fun x29 => (FX3_ownerOfFirst T x29 x14 x17 h18).bind fun x31 => if x31 = (-9 : Int32) then ((zgr h18 x12 6 3).bind fun x32 => (FX3_marksIn T x32 x14 x17 h18).bind fun x34 => J22 x34) else (J22 0)))
set_option maxHeartbeats 4000000 in
set_option maxRecDepth 100000 in
theorem LX6_bestDecision_27_ok {X : zX} (C : zC X cX6_bestDecision 8 RX6 "bestDecision" (some .int) 7 116) {Z : State → Prop} {hi : Nat} {ρ : Type} {r9 : ρ} {h18 : zH} {x12 : Nat} {x13 : Int32} {x14 : Int32} {K0 : Int32 → Int32 → Option ρ} (hK0 : ∀ (y2 : Int32) (y3 : Int32), K0 y2 y3 = some r9 → zW X 8 Z 0 0 false hi h18 123 [(0, .ref x12), (1, .int x13), (2, .int y2), (3, .int y3), (4, .int x14)] []) : ∀ (k : Nat) (x15 : Int32) (x16 : Int32) (x17 : Int32), LX6_bestDecision_27 (xT X) h18 x12 x13 x14 K0 k x15 x16 x17 = some r9 → zW X 8 Z 0 0 false hi h18 27 [(0, .ref x12), (1, .int x13), (2, .int x15), (3, .int x16), (4, .int x14), (5, .int x17)] [] := by
  intro k
  induction k with
  | zero =>
    intro x15 x16 x17 hf
    have hf : none = some r9 := hf
    cases hf
  | succ k ih =>
    intro x15 x16 x17 hf
    rw [LX6_bestDecision_27.eq_2] at hf
    refine z_iload C dX6_bestDecision_27 5 rfl ?_
    refine z_aload_n C dX6_bestDecision_29 0 rfl rfl ?_
    refine z_getR C fl_X6_32 dX6_bestDecision_30 hf (fun x19 hf => ?_)
    refine z_getI C fl_X6_109 dX6_bestDecision_33 hf (fun x20 hf => ?_)
    refine z_icmp_ge (tgt := 123) C dX6_bestDecision_36 (by decide) hf (fun hf => ?_) (fun hf => ?_)
    · refine z_sub [0, 1, 2, 3, 4] rfl ?_
      exact hK0 _ _ hf
    · refine z_join (P := fun J => ∀ (x21 : Int32), J x21 = some r9 → zW X 8 Z 0 0 false hi h18 70 [(0, .ref x12), (1, .int x13), (2, .int x15), (3, .int x16), (4, .int x14), (5, .int x17)] [.int x21]) hf ?_ ?_
      · intro x21 hf
        refine z_join (P := fun J => ∀ (x23 : Int32) (x24 : Int32), J x23 x24 = some r9 → zW X 8 Z 0 0 false hi h18 117 [(0, .ref x12), (1, .int x13), (2, .int x23), (3, .int x24), (4, .int x14), (5, .int x17)] []) hf ?_ ?_
        · intro x23 x24 hf
          refine z_iinc C dX6_bestDecision_117 (k := 5) (d := 1) rfl (by decide) (by decide) (lv' := [(5, .int (x17 + 1)), (0, .ref x12), (1, .int x13), (2, .int x23), (3, .int x24), (4, .int x14)]) rfl ?_
          refine z_goto (tgt := 27) C dX6_bestDecision_120 (by decide) ?_
          refine z_sub [1, 2, 3, 4, 5, 0] rfl ?_
          exact ih _ _ _ hf
        · intro J25 kJ25 hf
          refine z_istore C dX6_bestDecision_70 (by decide) (lv' := [(6, .int x21), (0, .ref x12), (1, .int x13), (2, .int x15), (3, .int x16), (4, .int x14), (5, .int x17)]) rfl ?_
          refine z_aload_n C dX6_bestDecision_72 1 rfl rfl ?_
          refine z_getR C fl_X6_32 dX6_bestDecision_73 hf (fun x26 hf => ?_)
          refine z_iload C dX6_bestDecision_76 5 rfl ?_
          refine z_iload C dX6_bestDecision_78 6 rfl ?_
          refine z_iload_n C dX6_bestDecision_80 2 rfl rfl ?_
          obtain ⟨x28, g27, hf⟩ := zbind hf
          refine z_callV (kc' := 0) (ks' := 0) C (MX3_firstToDecide (xl X) (xD X) (xT X) (xlo X) false hi g27) (OX3_firstToDecide g27) rfl cw_X6_277 yv_X3_firstToDecide dX6_bestDecision_81 rfl (by decide) ⟨rfl, rfl⟩ (Nat.le_of_ble_eq_true rfl) (st := []) rfl ?_
          refine z_istore C dX6_bestDecision_84 (by decide) (lv' := [(7, .int x28), (6, .int x21), (0, .ref x12), (1, .int x13), (2, .int x15), (3, .int x16), (4, .int x14), (5, .int x17)]) rfl ?_
          refine z_iload C dX6_bestDecision_86 0 rfl ?_
          refine z_bipush C (v := (-9 : Int32)) dX6_bestDecision_88 (by decide) ?_
          refine z_icmp_eq (tgt := 117) C dX6_bestDecision_90 (by decide) hf (fun hf => ?_) (fun hf => ?_)
          · refine z_sub [2, 3, 4, 5, 6, 7] rfl ?_
            exact kJ25 _ _ hf
          · refine z_iload C dX6_bestDecision_93 1 rfl ?_
            refine z_iload_n C dX6_bestDecision_95 5 rfl rfl ?_
            refine z_icmp_le (tgt := 117) C dX6_bestDecision_96 (by decide) hf (fun hf => ?_) (fun hf => ?_)
            · refine z_sub [2, 3, 4, 5, 6, 7] rfl ?_
              exact kJ25 _ _ hf
            · refine z_iload C dX6_bestDecision_99 1 rfl ?_
              refine z_istore_n C dX6_bestDecision_101 rfl (by decide) (lv' := [(3, .int x21), (7, .int x28), (6, .int x21), (0, .ref x12), (1, .int x13), (2, .int x15), (4, .int x14), (5, .int x17)]) rfl ?_
              refine z_bipush C (v := 100) dX6_bestDecision_102 (by decide) ?_
              refine z_iload C dX6_bestDecision_104 6 rfl ?_
              refine z_imul C dX6_bestDecision_106 ?_
              refine z_bipush C (v := 10) dX6_bestDecision_107 (by decide) ?_
              refine z_iload C dX6_bestDecision_109 7 rfl ?_
              refine z_imul C dX6_bestDecision_111 ?_
              refine z_iadd C dX6_bestDecision_112 ?_
              refine z_iload C dX6_bestDecision_113 1 rfl ?_
              refine z_iadd C dX6_bestDecision_115 ?_
              refine z_istore_n C dX6_bestDecision_116 rfl (by decide) (lv' := [(2, .int (((100 * x14) + (10 * x17)) + x28)), (3, .int x21), (7, .int x28), (6, .int x21), (0, .ref x12), (1, .int x13), (4, .int x14), (5, .int x17)]) rfl ?_
              refine z_sub [4, 5, 0, 1, 6, 7] rfl ?_
              exact kJ25 _ _ hf
      · intro J22 kJ22 hf
        refine z_aload_n C dX6_bestDecision_39 0 rfl rfl ?_
        refine z_getR C fl_X6_32 dX6_bestDecision_40 hf (fun x29 hf => ?_)
        refine z_iload C dX6_bestDecision_43 4 rfl ?_
        refine z_iload C dX6_bestDecision_45 5 rfl ?_
        obtain ⟨x31, g30, hf⟩ := zbind hf
        refine z_callV (kc' := 0) (ks' := 0) C (MX3_ownerOfFirst (xl X) (xD X) (xT X) (xlo X) false hi g30) (OX3_ownerOfFirst g30) rfl cw_X6_274 yv_X3_ownerOfFirst dX6_bestDecision_47 rfl (by decide) ⟨rfl, rfl⟩ (Nat.le_of_ble_eq_true rfl) (st := []) rfl ?_
        refine z_bipush C (v := (-9 : Int32)) dX6_bestDecision_50 (by decide) ?_
        refine z_icmp_ne (tgt := 69) C dX6_bestDecision_52 (by decide) hf (fun hf => ?_) (fun hf => ?_)
        · refine z_iconst C (v := 0) dX6_bestDecision_69 (by decide) ?_
          exact kJ22 _ hf
        · refine z_aload_n C dX6_bestDecision_55 0 rfl rfl ?_
          refine z_getR C fl_X6_32 dX6_bestDecision_56 hf (fun x32 hf => ?_)
          refine z_iload C dX6_bestDecision_59 4 rfl ?_
          refine z_iload C dX6_bestDecision_61 5 rfl ?_
          obtain ⟨x34, g33, hf⟩ := zbind hf
          refine z_callV (kc' := 0) (ks' := 0) C (MX3_marksIn (xl X) (xD X) (xT X) (xlo X) false hi g33) (OX3_marksIn g33) rfl cw_X6_155 yv_X3_marksIn dX6_bestDecision_63 rfl (by decide) ⟨rfl, rfl⟩ (Nat.le_of_ble_eq_true rfl) (st := []) rfl ?_
          refine z_goto (tgt := 70) C dX6_bestDecision_66 (by decide) ?_
          exact kJ22 _ hf
def LX6_bestDecision_12 {ρ : Type} (T : zT) (h9 : zH) (x4 : Nat) (x5 : Int32) (K0 : Int32 → Option ρ) : Nat → Int32 → Int32 → Int32 → Option ρ
  | 0, _, _, _ => none
  | k + 1, x6, x7, x8 => (zgr h9 x4 6 3).bind fun x10 => (zgi h9 x10 3 0).bind fun x11 => if x11 ≤ x8 then (K0 x6) else (LX6_bestDecision_27 T h9 x4 x5 x8 (fun (x35 : Int32) (x36 : Int32) => LX6_bestDecision_12 T h9 x4 x5 K0 k x35 x36 (x8 + 1)) FUEL x6 x7 0)
set_option maxHeartbeats 4000000 in
set_option maxRecDepth 100000 in
theorem LX6_bestDecision_12_ok {X : zX} (C : zC X cX6_bestDecision 8 RX6 "bestDecision" (some .int) 7 116) {Z : State → Prop} {hi : Nat} {ρ : Type} {r9 : ρ} {h9 : zH} {x4 : Nat} {x5 : Int32} {K0 : Int32 → Option ρ} (hK0 : ∀ (y2 : Int32), K0 y2 = some r9 → zW X 8 Z 0 0 false hi h9 129 [(2, .int y2)] []) : ∀ (k : Nat) (x6 : Int32) (x7 : Int32) (x8 : Int32), LX6_bestDecision_12 (xT X) h9 x4 x5 K0 k x6 x7 x8 = some r9 → zW X 8 Z 0 0 false hi h9 12 [(0, .ref x4), (1, .int x5), (2, .int x6), (3, .int x7), (4, .int x8)] [] := by
  intro k
  induction k with
  | zero =>
    intro x6 x7 x8 hf
    have hf : none = some r9 := hf
    cases hf
  | succ k ih =>
    intro x6 x7 x8 hf
    rw [LX6_bestDecision_12.eq_2] at hf
    refine z_iload C dX6_bestDecision_12 4 rfl ?_
    refine z_aload_n C dX6_bestDecision_14 0 rfl rfl ?_
    refine z_getR C fl_X6_32 dX6_bestDecision_15 hf (fun x10 hf => ?_)
    refine z_getI C fl_X6_106 dX6_bestDecision_18 hf (fun x11 hf => ?_)
    refine z_icmp_ge (tgt := 129) C dX6_bestDecision_21 (by decide) hf (fun hf => ?_) (fun hf => ?_)
    · refine z_sub [2] rfl ?_
      exact hK0 _ hf
    · refine z_iconst C (v := 0) dX6_bestDecision_24 (by decide) ?_
      refine z_istore C dX6_bestDecision_25 (by decide) (lv' := [(5, .int 0), (0, .ref x4), (1, .int x5), (2, .int x6), (3, .int x7), (4, .int x8)]) rfl ?_
      refine z_sub [1, 2, 3, 4, 5, 0] rfl ?_
      refine LX6_bestDecision_27_ok C ?_ FUEL _ _ _ hf
      · intro x35 x36 hf
        refine z_iinc C dX6_bestDecision_123 (k := 4) (d := 1) rfl (by decide) (by decide) (lv' := [(4, .int (x8 + 1)), (0, .ref x4), (1, .int x5), (2, .int x35), (3, .int x36)]) rfl ?_
        refine z_goto (tgt := 12) C dX6_bestDecision_126 (by decide) ?_
        refine z_sub [1, 2, 3, 4, 0] rfl ?_
        exact ih _ _ _ hf
def FX6_bestDecision (T : zT) (a0 : Nat) (p0 : Int32) (h : zH) : Option (Except String Int32 × zH) := (zo h a0 6).bind fun _ => zbx (FX6_checkLetter T p0 h) fun x2 h3 => LX6_bestDecision_12 T h3 a0 p0 (fun (x37 : Int32) => some (.ok x37, h3)) FUEL (-9 : Int32) (-1 : Int32) 0
set_option maxHeartbeats 4000000 in
set_option maxRecDepth 100000 in
theorem BX6_bestDecision {X : zX} (CX : zCX X cX6_bestDecision 8 RX6 "bestDecision" (some .int) 7 116) {hi : Nat} {h : zH} {a0 : Nat} {p0 : Int32} {r9 : (Except String Int32 × zH)} (hf : FX6_bestDecision (xT X) a0 p0 h = some r9) : zW X 8 (zZX X (zx cvI r9.1, r9.2)) 1 6 false hi h 0 [(0, .ref a0), (1, .int p0)] [] := by
  have C := CX.1
  unfold FX6_bestDecision at hf
  obtain ⟨_, _, hf⟩ := zbind hf
  refine z_iload_n C dX6_bestDecision_0 1 rfl rfl ?_
  refine z_callSX (kc' := 0) (ks' := 0) CX hf (fun _ _ e => MX6_checkLetter (xl X) CX.2.2.2 (xD X) (xT X) (xlo X) hi e) cw_X6_134 ys_X6_checkLetter dX6_bestDecision_1 rfl (by decide) ⟨rfl, rfl⟩ (Nat.le_of_ble_eq_true rfl) (st := []) rfl (fun x2 h3 hf => ?_)
  refine z_bipush C (v := (-9 : Int32)) dX6_bestDecision_4 (by decide) ?_
  refine z_istore_n C dX6_bestDecision_6 rfl (by decide) (lv' := [(2, .int (-9 : Int32)), (0, .ref a0), (1, .int p0)]) rfl ?_
  refine z_iconst C (v := (-1 : Int32)) dX6_bestDecision_7 (by decide) ?_
  refine z_istore_n C dX6_bestDecision_8 rfl (by decide) (lv' := [(3, .int (-1 : Int32)), (2, .int (-9 : Int32)), (0, .ref a0), (1, .int p0)]) rfl ?_
  refine z_iconst C (v := 0) dX6_bestDecision_9 (by decide) ?_
  refine z_istore C dX6_bestDecision_10 (by decide) (lv' := [(4, .int 0), (3, .int (-1 : Int32)), (2, .int (-9 : Int32)), (0, .ref a0), (1, .int p0)]) rfl ?_
  refine z_sub [3, 4, 2, 1, 0] rfl ?_
  refine LX6_bestDecision_12_ok C ?_ FUEL _ _ _ hf
  · intro x37 hf
    refine z_iload_n C dX6_bestDecision_129 0 rfl rfl ?_
    exact z_ireturnX CX dX6_bestDecision_130 (by cases hf; rfl)
theorem MX6_bestDecision (l : Launch) (hl9 : l.stackTraces = false) (D : va_G) (T : zT) (lo : Nat) (hi : Nat) {h : zH} {a0 : Nat} {p0 : Int32} {x9 : Except String Int32} {h9 : zH} (hf : FX6_bestDecision T a0 p0 h = some (x9, h9)) : zMX l yX6_bestDecision (.code yX6_bestDecision cX6_bestDecision 8 (some .int) :: TW) ({ frames := 7, cells := 1, slots := 6, locals := 116 } : Room) D T lo [.ref a0, .int p0] hi h (zx cvI x9, h9) :=
  z_enterX hl9 (own := RX6) (nm := "bestDecision") (lv := [(0, .ref a0), (1, .int p0)]) (by decide +kernel) rfl rfl (Nat.le_of_ble_eq_true rfl) rfl (fun _ _ _ _ _ _ _ _ C => BX6_bestDecision C hf)
theorem OX6_bestDecision {T : zT} {h : zH} {a0 : Nat} {p0 : Int32} {r9 : (Except String Int32 × zH)} (hf : FX6_bestDecision T a0 p0 h = some r9) : ∃ fs, h a0 = some (.inr (6, fs)) := by
  obtain ⟨_, h1, _⟩ := zbind hf
  exact zo_obj h1
theorem dX6_wordsWith_0 : decode cX6_wordsWith 0 = .ok (.iload_n 1, 1) := by decide +kernel
theorem dX6_wordsWith_1 : decode cX6_wordsWith 1 = .ok (.invokestatic 134, 3) := by decide +kernel
theorem dX6_wordsWith_4 : decode cX6_wordsWith 4 = .ok (.iload_n 2, 1) := by decide +kernel
theorem dX6_wordsWith_5 : decode cX6_wordsWith 5 = .ok (.iconst 1, 1) := by decide +kernel
theorem dX6_wordsWith_6 : decode cX6_wordsWith 6 = .ok (.iconst 3, 1) := by decide +kernel
theorem dX6_wordsWith_7 : decode cX6_wordsWith 7 = .ok (.invokestatic 72, 3) := by decide +kernel
theorem dX6_wordsWith_10 : decode cX6_wordsWith 10 = .ok (.aload_n 0, 1) := by decide +kernel
theorem dX6_wordsWith_11 : decode cX6_wordsWith 11 = .ok (.getfield 59, 3) := by decide +kernel
theorem dX6_wordsWith_14 : decode cX6_wordsWith 14 = .ok (.aload_n 0, 1) := by decide +kernel
theorem dX6_wordsWith_15 : decode cX6_wordsWith 15 = .ok (.getfield 32, 3) := by decide +kernel
theorem dX6_wordsWith_18 : decode cX6_wordsWith 18 = .ok (.iload_n 1, 1) := by decide +kernel
theorem dX6_wordsWith_19 : decode cX6_wordsWith 19 = .ok (.iload_n 2, 1) := by decide +kernel
theorem dX6_wordsWith_20 : decode cX6_wordsWith 20 = .ok (.invokevirtual 260, 3) := by decide +kernel
theorem dX6_wordsWith_23 : decode cX6_wordsWith 23 = .ok (.ireturn, 1) := by decide +kernel
def FX6_wordsWith (T : zT) (a0 : Nat) (p0 : Int32) (p1 : Int32) (h : zH) : Option (Except String Int32 × zH) := (zo h a0 6).bind fun _ => zbx (FX6_checkLetter T p0 h) fun x2 h3 => zbx (FX6_checkArgument T p1 1 3 h3) fun x5 h6 => (zgr h6 a0 6 8).bind fun x7 => (zgr h6 a0 6 3).bind fun x8 => zb2 (FX2_readLetter T x7 x8 p0 p1 h6) fun x10 h11 => some (.ok x10, h11)
set_option maxHeartbeats 4000000 in
set_option maxRecDepth 100000 in
theorem BX6_wordsWith {X : zX} (CX : zCX X cX6_wordsWith 3 RX6 "wordsWith" (some .int) 7 127) {hi : Nat} {h : zH} {a0 : Nat} {p0 : Int32} {p1 : Int32} {r9 : (Except String Int32 × zH)} (hf : FX6_wordsWith (xT X) a0 p0 p1 h = some r9) : zW X 3 (zZX X (zx cvI r9.1, r9.2)) 2 12 false hi h 0 [(0, .ref a0), (1, .int p0), (2, .int p1)] [] := by
  have C := CX.1
  unfold FX6_wordsWith at hf
  obtain ⟨_, _, hf⟩ := zbind hf
  refine z_iload_n C dX6_wordsWith_0 1 rfl rfl ?_
  refine z_callSX (kc' := 1) (ks' := 6) CX hf (fun _ _ e => MX6_checkLetter (xl X) CX.2.2.2 (xD X) (xT X) (xlo X) hi e) cw_X6_134 ys_X6_checkLetter dX6_wordsWith_1 rfl (by decide) ⟨rfl, rfl⟩ (Nat.le_of_ble_eq_true rfl) (st := []) rfl (fun x2 h3 hf => ?_)
  refine z_iload_n C dX6_wordsWith_4 2 rfl rfl ?_
  refine z_iconst C (v := 1) dX6_wordsWith_5 (by decide) ?_
  refine z_iconst C (v := 3) dX6_wordsWith_6 (by decide) ?_
  refine z_callSX (kc' := 0) (ks' := 0) CX hf (fun _ _ e => MX6_checkArgument (xl X) CX.2.2.2 (xD X) (xT X) (xlo X) hi e) cw_X6_72 ys_X6_checkArgument dX6_wordsWith_7 rfl (by decide) ⟨rfl, rfl⟩ (Nat.le_of_ble_eq_true rfl) (st := []) rfl (fun x5 h6 hf => ?_)
  refine z_aload_n C dX6_wordsWith_10 0 rfl rfl ?_
  refine z_getR C fl_X6_59 dX6_wordsWith_11 hf (fun x7 hf => ?_)
  refine z_aload_n C dX6_wordsWith_14 0 rfl rfl ?_
  refine z_getR C fl_X6_32 dX6_wordsWith_15 hf (fun x8 hf => ?_)
  refine z_iload_n C dX6_wordsWith_18 1 rfl rfl ?_
  refine z_iload_n C dX6_wordsWith_19 2 rfl rfl ?_
  obtain ⟨x10, h11, g9, hf⟩ := zbind2 hf
  refine z_callV (kc' := 0) (ks' := 0) C (MX2_readLetter (xl X) (xD X) (xT X) (xlo X) false hi g9) (OX2_readLetter g9) rfl cw_X6_260 yv_X2_readLetter dX6_wordsWith_20 rfl (by decide) ⟨rfl, rfl⟩ (Nat.le_of_ble_eq_true rfl) (st := []) rfl ?_
  exact z_ireturnX CX dX6_wordsWith_23 (by cases hf; rfl)
theorem MX6_wordsWith (l : Launch) (hl9 : l.stackTraces = false) (D : va_G) (T : zT) (lo : Nat) (hi : Nat) {h : zH} {a0 : Nat} {p0 : Int32} {p1 : Int32} {x9 : Except String Int32} {h9 : zH} (hf : FX6_wordsWith T a0 p0 p1 h = some (x9, h9)) : zMX l yX6_wordsWith (.code yX6_wordsWith cX6_wordsWith 3 (some .int) :: TW) ({ frames := 7, cells := 2, slots := 12, locals := 127 } : Room) D T lo [.ref a0, .int p0, .int p1] hi h (zx cvI x9, h9) :=
  z_enterX hl9 (own := RX6) (nm := "wordsWith") (lv := [(0, .ref a0), (1, .int p0), (2, .int p1)]) (by decide +kernel) rfl rfl (Nat.le_of_ble_eq_true rfl) rfl (fun _ _ _ _ _ _ _ _ C => BX6_wordsWith C hf)
theorem OX6_wordsWith {T : zT} {h : zH} {a0 : Nat} {p0 : Int32} {p1 : Int32} {r9 : (Except String Int32 × zH)} (hf : FX6_wordsWith T a0 p0 p1 h = some r9) : ∃ fs, h a0 = some (.inr (6, fs)) := by
  obtain ⟨_, h1, _⟩ := zbind hf
  exact zo_obj h1
theorem dX6_runScript_0 : decode cX6_runScript 0 = .ok (.iload_n 1, 1) := by decide +kernel
theorem dX6_runScript_1 : decode cX6_runScript 1 = .ok (.iconst 1, 1) := by decide +kernel
theorem dX6_runScript_2 : decode cX6_runScript 2 = .ok (.iconst 3, 1) := by decide +kernel
theorem dX6_runScript_3 : decode cX6_runScript 3 = .ok (.invokestatic 72, 3) := by decide +kernel
theorem dX6_runScript_6 : decode cX6_runScript 6 = .ok (.aload_n 0, 1) := by decide +kernel
theorem dX6_runScript_7 : decode cX6_runScript 7 = .ok (.iload_n 1, 1) := by decide +kernel
theorem dX6_runScript_8 : decode cX6_runScript 8 = .ok (.lload_n 2, 1) := by decide +kernel
theorem dX6_runScript_9 : decode cX6_runScript 9 = .ok (.invokevirtual 280, 3) := by decide +kernel
theorem dX6_runScript_12 : decode cX6_runScript 12 = .ok (.ifCond .ne 14, 3) := by decide +kernel
theorem dX6_runScript_15 : decode cX6_runScript 15 = .ok (.new 193, 3) := by decide +kernel
theorem dX6_runScript_18 : decode cX6_runScript 18 = .ok (.dup, 1) := by decide +kernel
theorem dX6_runScript_19 : decode cX6_runScript 19 = .ok (.ldc_w 283, 3) := by decide +kernel
theorem dX6_runScript_22 : decode cX6_runScript 22 = .ok (.invokespecial 197, 3) := by decide +kernel
theorem dX6_runScript_25 : decode cX6_runScript 25 = .ok (.athrow, 1) := by decide +kernel
theorem dX6_runScript_26 : decode cX6_runScript 26 = .ok (.aload_n 0, 1) := by decide +kernel
theorem dX6_runScript_27 : decode cX6_runScript 27 = .ok (.getfield 36, 3) := by decide +kernel
theorem dX6_runScript_30 : decode cX6_runScript 30 = .ok (.aload_n 0, 1) := by decide +kernel
theorem dX6_runScript_31 : decode cX6_runScript 31 = .ok (.getfield 32, 3) := by decide +kernel
theorem dX6_runScript_34 : decode cX6_runScript 34 = .ok (.invokevirtual 93, 3) := by decide +kernel
theorem dX6_runScript_37 : decode cX6_runScript 37 = .ok (.iconst 0, 1) := by decide +kernel
theorem dX6_runScript_38 : decode cX6_runScript 38 = .ok (.istore 4, 2) := by decide +kernel
theorem dX6_runScript_40 : decode cX6_runScript 40 = .ok (.iload 4, 2) := by decide +kernel
theorem dX6_runScript_42 : decode cX6_runScript 42 = .ok (.iload_n 1, 1) := by decide +kernel
theorem dX6_runScript_43 : decode cX6_runScript 43 = .ok (.if_icmp .ge 28, 3) := by decide +kernel
theorem dX6_runScript_46 : decode cX6_runScript 46 = .ok (.aload_n 0, 1) := by decide +kernel
theorem dX6_runScript_47 : decode cX6_runScript 47 = .ok (.aload_n 0, 1) := by decide +kernel
theorem dX6_runScript_48 : decode cX6_runScript 48 = .ok (.getfield 69, 3) := by decide +kernel
theorem dX6_runScript_51 : decode cX6_runScript 51 = .ok (.iload 4, 2) := by decide +kernel
theorem dX6_runScript_53 : decode cX6_runScript 53 = .ok (.invokevirtual 140, 3) := by decide +kernel
theorem dX6_runScript_56 : decode cX6_runScript 56 = .ok (.invokevirtual 285, 3) := by decide +kernel
theorem dX6_runScript_59 : decode cX6_runScript 59 = .ok (.ifCond .ne 6, 3) := by decide +kernel
theorem dX6_runScript_62 : decode cX6_runScript 62 = .ok (.iload 4, 2) := by decide +kernel
theorem dX6_runScript_64 : decode cX6_runScript 64 = .ok (.ireturn, 1) := by decide +kernel
theorem dX6_runScript_65 : decode cX6_runScript 65 = .ok (.iinc 4 1, 3) := by decide +kernel
theorem dX6_runScript_68 : decode cX6_runScript 68 = .ok (.goto (-28), 3) := by decide +kernel
theorem dX6_runScript_71 : decode cX6_runScript 71 = .ok (.bipush (-9), 2) := by decide +kernel
theorem dX6_runScript_73 : decode cX6_runScript 73 = .ok (.ireturn, 1) := by decide +kernel
def LX6_runScript_40 {ρ : Type} (T : zT) (x11 : Nat) (x12 : Int32) (K0 : Int32 → zH → Option ρ) (K1 : zH → Option ρ) : Nat → Int32 → zH → Option ρ
  | 0, _, _ => none
  | k + 1, x13, h14 => if x12 ≤ x13 then (K1 h14) else ((zgr h14 x11 6 11).bind fun x15 => (FX1_at T x15 x13 h14).bind fun x17 => zb2 (FX6_succeeds T x11 x17 h14) fun x19 h20 => if x19 = 0 then (K0 x13 h20) else (LX6_runScript_40 T x11 x12 K0 K1 k (x13 + 1) h20))
set_option maxHeartbeats 4000000 in
set_option maxRecDepth 100000 in
theorem LX6_runScript_40_ok {X : zX} (C : zC X cX6_runScript 5 RX6 "runScript" (some .int) 7 153) {Z : State → Prop} {hi : Nat} {ρ : Type} {r9 : ρ} {x11 : Nat} {x12 : Int32} {K0 : Int32 → zH → Option ρ} {K1 : zH → Option ρ} (hK0 : ∀ (y4 : Int32) (g9 : zH), K0 y4 g9 = some r9 → zW X 5 Z 0 0 false hi g9 62 [(4, .int y4)] []) (hK1 : ∀ (g9 : zH), K1 g9 = some r9 → zW X 5 Z 0 0 false hi g9 71 [] []) : ∀ (k : Nat) (x13 : Int32) (h14 : zH), LX6_runScript_40 (xT X) x11 x12 K0 K1 k x13 h14 = some r9 → zW X 5 Z 0 0 false hi h14 40 [(0, .ref x11), (1, .int x12), (4, .int x13)] [] := by
  intro k
  induction k with
  | zero =>
    intro x13 h14 hf
    have hf : none = some r9 := hf
    cases hf
  | succ k ih =>
    intro x13 h14 hf
    rw [LX6_runScript_40.eq_2] at hf
    refine z_iload C dX6_runScript_40 2 rfl ?_
    refine z_iload_n C dX6_runScript_42 1 rfl rfl ?_
    refine z_icmp_ge (tgt := 71) C dX6_runScript_43 (by decide) hf (fun hf => ?_) (fun hf => ?_)
    · refine z_sub [] rfl ?_
      exact hK1 _ hf
    · refine z_aload_n C dX6_runScript_46 0 rfl rfl ?_
      refine z_aload_n C dX6_runScript_47 0 rfl rfl ?_
      refine z_getR C fl_X6_69 dX6_runScript_48 hf (fun x15 hf => ?_)
      refine z_iload C dX6_runScript_51 2 rfl ?_
      obtain ⟨x17, g16, hf⟩ := zbind hf
      refine z_callV (kc' := 0) (ks' := 0) C (MX1_at (xl X) (xD X) (xT X) (xlo X) false hi g16) (OX1_at g16) rfl cw_X6_140 yv_X1_at dX6_runScript_53 rfl (by decide) ⟨rfl, rfl⟩ (Nat.le_of_ble_eq_true rfl) (st := [.ref x11]) rfl ?_
      obtain ⟨x19, h20, g18, hf⟩ := zbind2 hf
      refine z_callV (kc' := 0) (ks' := 0) C (MX6_succeeds (xl X) (xD X) (xT X) (xlo X) hi g18) (OX6_succeeds g18) rfl cw_X6_285 yv_X6_succeeds dX6_runScript_56 rfl (by decide) ⟨rfl, rfl⟩ (Nat.le_of_ble_eq_true rfl) (st := []) rfl ?_
      refine z_if_ne (tgt := 65) C dX6_runScript_59 (by decide) hf (fun hf => ?_) (fun hf => ?_)
      · refine z_iinc C dX6_runScript_65 (k := 2) (d := 1) rfl (by decide) (by decide) (lv' := [(4, .int (x13 + 1)), (0, .ref x11), (1, .int x12)]) rfl ?_
        refine z_goto (tgt := 40) C dX6_runScript_68 (by decide) ?_
        refine z_sub [1, 2, 0] rfl ?_
        exact ih _ _ hf
      · refine z_sub [2] rfl ?_
        exact hK0 _ _ hf
def FX6_runScript (T : zT) (a0 : Nat) (p0 : Int32) (p1 : Int64) (h : zH) : Option (Except String Int32 × zH) := (zo h a0 6).bind fun _ => zbx (FX6_checkArgument T p0 1 3 h) fun x2 h3 => zb2 (FX6_splitScript T a0 p0 p1 h3) fun x5 h6 => if x5 = 0 then (some (.error "java/lang/IllegalArgumentException", h6)) else ((zgr h6 a0 6 4).bind fun x7 => (zgr h6 a0 6 3).bind fun x8 => (FX3_takeFrom T x7 x8 h6).bind fun h10 => LX6_runScript_40 T a0 p0 (fun (x21 : Int32) (h22 : zH) => some (.ok x21, h22)) (fun (h23 : zH) => some (.ok (-9 : Int32), h23)) FUEL 0 h10)
set_option maxHeartbeats 4000000 in
set_option maxRecDepth 100000 in
theorem BX6_runScript {X : zX} (CX : zCX X cX6_runScript 5 RX6 "runScript" (some .int) 7 153) {hi : Nat} {h : zH} {a0 : Nat} {p0 : Int32} {p1 : Int64} {r9 : (Except String Int32 × zH)} (hf : FX6_runScript (xT X) a0 p0 p1 h = some r9) : zW X 5 (zZX X (zx cvI r9.1, r9.2)) 2 12 false hi h 0 [(0, .ref a0), (1, .int p0), (2, .long p1)] [] := by
  have C := CX.1
  unfold FX6_runScript at hf
  obtain ⟨_, _, hf⟩ := zbind hf
  refine z_iload_n C dX6_runScript_0 1 rfl rfl ?_
  refine z_iconst C (v := 1) dX6_runScript_1 (by decide) ?_
  refine z_iconst C (v := 3) dX6_runScript_2 (by decide) ?_
  refine z_callSX (kc' := 1) (ks' := 6) CX hf (fun _ _ e => MX6_checkArgument (xl X) CX.2.2.2 (xD X) (xT X) (xlo X) hi e) cw_X6_72 ys_X6_checkArgument dX6_runScript_3 rfl (by decide) ⟨rfl, rfl⟩ (Nat.le_of_ble_eq_true rfl) (st := []) rfl (fun x2 h3 hf => ?_)
  refine z_aload_n C dX6_runScript_6 0 rfl rfl ?_
  refine z_iload_n C dX6_runScript_7 1 rfl rfl ?_
  refine z_lload_n C dX6_runScript_8 2 rfl rfl ?_
  obtain ⟨x5, h6, g4, hf⟩ := zbind2 hf
  refine z_callV (kc' := 1) (ks' := 6) C (MX6_splitScript (xl X) (xD X) (xT X) (xlo X) false hi g4) (OX6_splitScript g4) rfl cw_X6_280 yv_X6_splitScript dX6_runScript_9 rfl (by decide) ⟨rfl, rfl⟩ (Nat.le_of_ble_eq_true rfl) (st := []) rfl ?_
  refine z_if_ne (tgt := 26) C dX6_runScript_12 (by decide) hf (fun hf => ?_) (fun hf => ?_)
  · refine z_aload_n C dX6_runScript_26 0 rfl rfl ?_
    refine z_getR C fl_X6_36 dX6_runScript_27 hf (fun x7 hf => ?_)
    refine z_aload_n C dX6_runScript_30 0 rfl rfl ?_
    refine z_getR C fl_X6_32 dX6_runScript_31 hf (fun x8 hf => ?_)
    obtain ⟨h10, g9, hf⟩ := zbind hf
    refine z_callV (kc' := 1) (ks' := 6) C (MX3_takeFrom (xl X) (xD X) (xT X) (xlo X) hi g9) (OX3_takeFrom g9) rfl cw_X6_93 yv_X3_takeFrom dX6_runScript_34 rfl (by decide) ⟨rfl, rfl⟩ (Nat.le_of_ble_eq_true rfl) (st := []) rfl ?_
    refine z_iconst C (v := 0) dX6_runScript_37 (by decide) ?_
    refine z_istore C dX6_runScript_38 (by decide) (lv' := [(4, .int 0), (0, .ref a0), (1, .int p0), (2, .long p1)]) rfl ?_
    refine z_less (kc' := 0) (ks' := 0) (by decide) (by decide) ?_
    refine z_sub [1, 2, 0] rfl ?_
    refine LX6_runScript_40_ok C ?_ ?_ FUEL _ _ hf
    · intro x21 h22 hf
      refine z_iload C dX6_runScript_62 0 rfl ?_
      exact z_ireturnX CX dX6_runScript_64 (by cases hf; rfl)
    · intro h23 hf
      refine z_bipush C (v := (-9 : Int32)) dX6_runScript_71 (by decide) ?_
      exact z_ireturnX CX dX6_runScript_73 (by cases hf; rfl)
  · exact z_throwW CX ts_X6_283 dX6_runScript_15 dX6_runScript_18 dX6_runScript_19 dX6_runScript_22 dX6_runScript_25 ⟨Nat.le_of_ble_eq_true rfl, Nat.le_of_ble_eq_true rfl⟩ ⟨by decide, by decide⟩ (by cases hf; rfl)
theorem MX6_runScript (l : Launch) (hl9 : l.stackTraces = false) (D : va_G) (T : zT) (lo : Nat) (hi : Nat) {h : zH} {a0 : Nat} {p0 : Int32} {p1 : Int64} {x9 : Except String Int32} {h9 : zH} (hf : FX6_runScript T a0 p0 p1 h = some (x9, h9)) : zMX l yX6_runScript (.code yX6_runScript cX6_runScript 5 (some .int) :: TW) ({ frames := 7, cells := 2, slots := 12, locals := 153 } : Room) D T lo [.ref a0, .int p0, .long p1] hi h (zx cvI x9, h9) :=
  z_enterX hl9 (own := RX6) (nm := "runScript") (lv := [(0, .ref a0), (1, .int p0), (2, .long p1)]) (by decide +kernel) rfl rfl (Nat.le_of_ble_eq_true rfl) rfl (fun _ _ _ _ _ _ _ _ C => BX6_runScript C hf)
theorem OX6_runScript {T : zT} {h : zH} {a0 : Nat} {p0 : Int32} {p1 : Int64} {r9 : (Except String Int32 × zH)} (hf : FX6_runScript T a0 p0 p1 h = some r9) : ∃ fs, h a0 = some (.inr (6, fs)) := by
  obtain ⟨_, h1, _⟩ := zbind hf
  exact zo_obj h1
theorem dX6_simulate_0 : decode cX6_simulate 0 = .ok (.iload_n 3, 1) := by decide +kernel
theorem dX6_simulate_1 : decode cX6_simulate 1 = .ok (.iconst 1, 1) := by decide +kernel
theorem dX6_simulate_2 : decode cX6_simulate 2 = .ok (.bipush 99, 2) := by decide +kernel
theorem dX6_simulate_4 : decode cX6_simulate 4 = .ok (.invokestatic 72, 3) := by decide +kernel
theorem dX6_simulate_7 : decode cX6_simulate 7 = .ok (.aload_n 0, 1) := by decide +kernel
theorem dX6_simulate_8 : decode cX6_simulate 8 = .ok (.getfield 36, 3) := by decide +kernel
theorem dX6_simulate_11 : decode cX6_simulate 11 = .ok (.aload_n 0, 1) := by decide +kernel
theorem dX6_simulate_12 : decode cX6_simulate 12 = .ok (.getfield 32, 3) := by decide +kernel
theorem dX6_simulate_15 : decode cX6_simulate 15 = .ok (.invokevirtual 93, 3) := by decide +kernel
theorem dX6_simulate_18 : decode cX6_simulate 18 = .ok (.lload_n 1, 1) := by decide +kernel
theorem dX6_simulate_19 : decode cX6_simulate 19 = .ok (.lstore 4, 2) := by decide +kernel
theorem dX6_simulate_21 : decode cX6_simulate 21 = .ok (.iconst 0, 1) := by decide +kernel
theorem dX6_simulate_22 : decode cX6_simulate 22 = .ok (.istore 6, 2) := by decide +kernel
theorem dX6_simulate_24 : decode cX6_simulate 24 = .ok (.iload 6, 2) := by decide +kernel
theorem dX6_simulate_26 : decode cX6_simulate 26 = .ok (.iload_n 3, 1) := by decide +kernel
theorem dX6_simulate_27 : decode cX6_simulate 27 = .ok (.if_icmp .ge 31, 3) := by decide +kernel
theorem dX6_simulate_30 : decode cX6_simulate 30 = .ok (.lload 4, 2) := by decide +kernel
theorem dX6_simulate_32 : decode cX6_simulate 32 = .ok (.ldc2_w 289, 3) := by decide +kernel
theorem dX6_simulate_35 : decode cX6_simulate 35 = .ok (.lmul, 1) := by decide +kernel
theorem dX6_simulate_36 : decode cX6_simulate 36 = .ok (.ldc2_w 291, 3) := by decide +kernel
theorem dX6_simulate_39 : decode cX6_simulate 39 = .ok (.ladd, 1) := by decide +kernel
theorem dX6_simulate_40 : decode cX6_simulate 40 = .ok (.lstore 4, 2) := by decide +kernel
theorem dX6_simulate_42 : decode cX6_simulate 42 = .ok (.aload_n 0, 1) := by decide +kernel
theorem dX6_simulate_43 : decode cX6_simulate 43 = .ok (.lload 4, 2) := by decide +kernel
theorem dX6_simulate_45 : decode cX6_simulate 45 = .ok (.bipush 33, 2) := by decide +kernel
theorem dX6_simulate_47 : decode cX6_simulate 47 = .ok (.lushr, 1) := by decide +kernel
theorem dX6_simulate_48 : decode cX6_simulate 48 = .ok (.l2i, 1) := by decide +kernel
theorem dX6_simulate_49 : decode cX6_simulate 49 = .ok (.invokevirtual 293, 3) := by decide +kernel
theorem dX6_simulate_52 : decode cX6_simulate 52 = .ok (.iinc 6 1, 3) := by decide +kernel
theorem dX6_simulate_55 : decode cX6_simulate 55 = .ok (.goto (-31), 3) := by decide +kernel
theorem dX6_simulate_58 : decode cX6_simulate 58 = .ok (.aload_n 0, 1) := by decide +kernel
theorem dX6_simulate_59 : decode cX6_simulate 59 = .ok (.getfield 59, 3) := by decide +kernel
theorem dX6_simulate_62 : decode cX6_simulate 62 = .ok (.aload_n 0, 1) := by decide +kernel
theorem dX6_simulate_63 : decode cX6_simulate 63 = .ok (.getfield 36, 3) := by decide +kernel
theorem dX6_simulate_66 : decode cX6_simulate 66 = .ok (.iconst 0, 1) := by decide +kernel
theorem dX6_simulate_67 : decode cX6_simulate 67 = .ok (.aload_n 0, 1) := by decide +kernel
theorem dX6_simulate_68 : decode cX6_simulate 68 = .ok (.getfield 36, 3) := by decide +kernel
theorem dX6_simulate_71 : decode cX6_simulate 71 = .ok (.getfield 121, 3) := by decide +kernel
theorem dX6_simulate_74 : decode cX6_simulate 74 = .ok (.invokevirtual 260, 3) := by decide +kernel
theorem dX6_simulate_77 : decode cX6_simulate 77 = .ok (.aload_n 0, 1) := by decide +kernel
theorem dX6_simulate_78 : decode cX6_simulate 78 = .ok (.getfield 59, 3) := by decide +kernel
theorem dX6_simulate_81 : decode cX6_simulate 81 = .ok (.aload_n 0, 1) := by decide +kernel
theorem dX6_simulate_82 : decode cX6_simulate 82 = .ok (.getfield 36, 3) := by decide +kernel
theorem dX6_simulate_85 : decode cX6_simulate 85 = .ok (.iconst 1, 1) := by decide +kernel
theorem dX6_simulate_86 : decode cX6_simulate 86 = .ok (.aload_n 0, 1) := by decide +kernel
theorem dX6_simulate_87 : decode cX6_simulate 87 = .ok (.getfield 36, 3) := by decide +kernel
theorem dX6_simulate_90 : decode cX6_simulate 90 = .ok (.getfield 121, 3) := by decide +kernel
theorem dX6_simulate_93 : decode cX6_simulate 93 = .ok (.invokevirtual 260, 3) := by decide +kernel
theorem dX6_simulate_96 : decode cX6_simulate 96 = .ok (.iadd, 1) := by decide +kernel
theorem dX6_simulate_97 : decode cX6_simulate 97 = .ok (.istore 6, 2) := by decide +kernel
theorem dX6_simulate_99 : decode cX6_simulate 99 = .ok (.sipush 1000, 3) := by decide +kernel
theorem dX6_simulate_102 : decode cX6_simulate 102 = .ok (.iload 6, 2) := by decide +kernel
theorem dX6_simulate_104 : decode cX6_simulate 104 = .ok (.imul, 1) := by decide +kernel
theorem dX6_simulate_105 : decode cX6_simulate 105 = .ok (.aload_n 0, 1) := by decide +kernel
theorem dX6_simulate_106 : decode cX6_simulate 106 = .ok (.getfield 36, 3) := by decide +kernel
theorem dX6_simulate_109 : decode cX6_simulate 109 = .ok (.invokevirtual 112, 3) := by decide +kernel
theorem dX6_simulate_112 : decode cX6_simulate 112 = .ok (.iadd, 1) := by decide +kernel
theorem dX6_simulate_113 : decode cX6_simulate 113 = .ok (.ireturn, 1) := by decide +kernel
def LX6_simulate_24 {ρ : Type} (T : zT) (x8 : Nat) (x9 : Int32) (K0 : zH → Option ρ) : Nat → Int64 → Int32 → zH → Option ρ
  | 0, _, _, _ => none
  | k + 1, x10, x11, h12 => if x9 ≤ x11 then (K0 h12) else ((FX6_playRound T x8 ((zlushr ((x10 * (6364136223846793005 : Int64)) + (1442695040888963407 : Int64)) 33).toInt32) h12).bind fun h14 => LX6_simulate_24 T x8 x9 K0 k ((x10 * (6364136223846793005 : Int64)) + (1442695040888963407 : Int64)) (x11 + 1) h14)
set_option maxHeartbeats 4000000 in
set_option maxRecDepth 100000 in
theorem LX6_simulate_24_ok {X : zX} (C : zC X cX6_simulate 7 RX6 "simulate" (some .int) 7 127) {Z : State → Prop} {hi : Nat} {ρ : Type} {r9 : ρ} {x8 : Nat} {x9 : Int32} {K0 : zH → Option ρ} (hK0 : ∀ (g9 : zH), K0 g9 = some r9 → zW X 7 Z 0 0 false hi g9 58 [(0, .ref x8)] []) : ∀ (k : Nat) (x10 : Int64) (x11 : Int32) (h12 : zH), LX6_simulate_24 (xT X) x8 x9 K0 k x10 x11 h12 = some r9 → zW X 7 Z 0 0 false hi h12 24 [(0, .ref x8), (3, .int x9), (4, .long x10), (6, .int x11)] [] := by
  intro k
  induction k with
  | zero =>
    intro x10 x11 h12 hf
    have hf : none = some r9 := hf
    cases hf
  | succ k ih =>
    intro x10 x11 h12 hf
    rw [LX6_simulate_24.eq_2] at hf
    refine z_iload C dX6_simulate_24 3 rfl ?_
    refine z_iload_n C dX6_simulate_26 1 rfl rfl ?_
    refine z_icmp_ge (tgt := 58) C dX6_simulate_27 (by decide) hf (fun hf => ?_) (fun hf => ?_)
    · refine z_sub [0] rfl ?_
      exact hK0 _ hf
    · refine z_lload C dX6_simulate_30 2 rfl ?_
      refine z_ldc2 C (v := 6364136223846793005) mw_375 dX6_simulate_32 ?_
      refine z_lmul C dX6_simulate_35 ?_
      refine z_ldc2 C (v := 1442695040888963407) mw_376 dX6_simulate_36 ?_
      refine z_ladd C dX6_simulate_39 ?_
      refine z_lstore C dX6_simulate_40 (by decide) (lv' := [(4, .long ((x10 * (6364136223846793005 : Int64)) + (1442695040888963407 : Int64))), (0, .ref x8), (3, .int x9), (6, .int x11)]) rfl ?_
      refine z_aload_n C dX6_simulate_42 1 rfl rfl ?_
      refine z_lload C dX6_simulate_43 0 rfl ?_
      refine z_bipush C (v := 33) dX6_simulate_45 (by decide) ?_
      refine z_lushr C dX6_simulate_47 ?_
      refine z_l2i C dX6_simulate_48 ?_
      obtain ⟨h14, g13, hf⟩ := zbind hf
      refine z_callV (kc' := 0) (ks' := 0) C (MX6_playRound (xl X) (xD X) (xT X) (xlo X) false hi g13) (OX6_playRound g13) rfl cw_X6_293 yv_X6_playRound dX6_simulate_49 rfl (by decide) ⟨rfl, rfl⟩ (Nat.le_of_ble_eq_true rfl) (st := []) rfl ?_
      refine z_iinc C dX6_simulate_52 (k := 3) (d := 1) rfl (by decide) (by decide) (lv' := [(6, .int (x11 + 1)), (4, .long ((x10 * (6364136223846793005 : Int64)) + (1442695040888963407 : Int64))), (0, .ref x8), (3, .int x9)]) rfl ?_
      refine z_goto (tgt := 24) C dX6_simulate_55 (by decide) ?_
      refine z_sub [2, 3, 1, 0] rfl ?_
      exact ih _ _ _ hf
def FX6_simulate (T : zT) (a0 : Nat) (p0 : Int64) (p1 : Int32) (h : zH) : Option (Except String Int32 × zH) := (zo h a0 6).bind fun _ => zbx (FX6_checkArgument T p1 1 99 h) fun x2 h3 => (zgr h3 a0 6 4).bind fun x4 => (zgr h3 a0 6 3).bind fun x5 => (FX3_takeFrom T x4 x5 h3).bind fun h7 => LX6_simulate_24 T a0 p1 (fun (h15 : zH) => (zgr h15 a0 6 8).bind fun x16 => (zgr h15 a0 6 4).bind fun x17 => (zgr h15 a0 6 4).bind fun x18 => (zgi h15 x18 3 3).bind fun x19 => zb2 (FX2_readLetter T x16 x17 0 x19 h15) fun x21 h22 => (zgr h22 a0 6 8).bind fun x23 => (zgr h22 a0 6 4).bind fun x24 => (zgr h22 a0 6 4).bind fun x25 => (zgi h22 x25 3 3).bind fun x26 => zb2 (FX2_readLetter T x23 x24 1 x26 h22) fun x28 h29 => (zgr h29 a0 6 4).bind fun x30 => (FX3_countDoubtful T x30 h29).bind fun x32 => some (.ok ((1000 * (x21 + x28)) + x32), h29)) FUEL p0 0 h7
set_option maxHeartbeats 4000000 in
set_option maxRecDepth 100000 in
theorem BX6_simulate {X : zX} (CX : zCX X cX6_simulate 7 RX6 "simulate" (some .int) 7 127) {hi : Nat} {h : zH} {a0 : Nat} {p0 : Int64} {p1 : Int32} {r9 : (Except String Int32 × zH)} (hf : FX6_simulate (xT X) a0 p0 p1 h = some r9) : zW X 7 (zZX X (zx cvI r9.1, r9.2)) 1 6 false hi h 0 [(0, .ref a0), (1, .long p0), (3, .int p1)] [] := by
  have C := CX.1
  unfold FX6_simulate at hf
  obtain ⟨_, _, hf⟩ := zbind hf
  refine z_iload_n C dX6_simulate_0 2 rfl rfl ?_
  refine z_iconst C (v := 1) dX6_simulate_1 (by decide) ?_
  refine z_bipush C (v := 99) dX6_simulate_2 (by decide) ?_
  refine z_callSX (kc' := 0) (ks' := 0) CX hf (fun _ _ e => MX6_checkArgument (xl X) CX.2.2.2 (xD X) (xT X) (xlo X) hi e) cw_X6_72 ys_X6_checkArgument dX6_simulate_4 rfl (by decide) ⟨rfl, rfl⟩ (Nat.le_of_ble_eq_true rfl) (st := []) rfl (fun x2 h3 hf => ?_)
  refine z_aload_n C dX6_simulate_7 0 rfl rfl ?_
  refine z_getR C fl_X6_36 dX6_simulate_8 hf (fun x4 hf => ?_)
  refine z_aload_n C dX6_simulate_11 0 rfl rfl ?_
  refine z_getR C fl_X6_32 dX6_simulate_12 hf (fun x5 hf => ?_)
  obtain ⟨h7, g6, hf⟩ := zbind hf
  refine z_callV (kc' := 0) (ks' := 0) C (MX3_takeFrom (xl X) (xD X) (xT X) (xlo X) hi g6) (OX3_takeFrom g6) rfl cw_X6_93 yv_X3_takeFrom dX6_simulate_15 rfl (by decide) ⟨rfl, rfl⟩ (Nat.le_of_ble_eq_true rfl) (st := []) rfl ?_
  refine z_lload_n C dX6_simulate_18 1 rfl rfl ?_
  refine z_lstore C dX6_simulate_19 (by decide) (lv' := [(4, .long p0), (0, .ref a0), (1, .long p0), (3, .int p1)]) rfl ?_
  refine z_iconst C (v := 0) dX6_simulate_21 (by decide) ?_
  refine z_istore C dX6_simulate_22 (by decide) (lv' := [(6, .int 0), (4, .long p0), (0, .ref a0), (1, .long p0), (3, .int p1)]) rfl ?_
  refine z_sub [2, 4, 1, 0] rfl ?_
  refine LX6_simulate_24_ok C ?_ FUEL _ _ _ hf
  · intro h15 hf
    refine z_aload_n C dX6_simulate_58 0 rfl rfl ?_
    refine z_getR C fl_X6_59 dX6_simulate_59 hf (fun x16 hf => ?_)
    refine z_aload_n C dX6_simulate_62 0 rfl rfl ?_
    refine z_getR C fl_X6_36 dX6_simulate_63 hf (fun x17 hf => ?_)
    refine z_iconst C (v := 0) dX6_simulate_66 (by decide) ?_
    refine z_aload_n C dX6_simulate_67 0 rfl rfl ?_
    refine z_getR C fl_X6_36 dX6_simulate_68 hf (fun x18 hf => ?_)
    refine z_getI C fl_X6_121 dX6_simulate_71 hf (fun x19 hf => ?_)
    obtain ⟨x21, h22, g20, hf⟩ := zbind2 hf
    refine z_callV (kc' := 0) (ks' := 0) C (MX2_readLetter (xl X) (xD X) (xT X) (xlo X) false hi g20) (OX2_readLetter g20) rfl cw_X6_260 yv_X2_readLetter dX6_simulate_74 rfl (by decide) ⟨rfl, rfl⟩ (Nat.le_of_ble_eq_true rfl) (st := []) rfl ?_
    refine z_aload_n C dX6_simulate_77 0 rfl rfl ?_
    refine z_getR C fl_X6_59 dX6_simulate_78 hf (fun x23 hf => ?_)
    refine z_aload_n C dX6_simulate_81 0 rfl rfl ?_
    refine z_getR C fl_X6_36 dX6_simulate_82 hf (fun x24 hf => ?_)
    refine z_iconst C (v := 1) dX6_simulate_85 (by decide) ?_
    refine z_aload_n C dX6_simulate_86 0 rfl rfl ?_
    refine z_getR C fl_X6_36 dX6_simulate_87 hf (fun x25 hf => ?_)
    refine z_getI C fl_X6_121 dX6_simulate_90 hf (fun x26 hf => ?_)
    obtain ⟨x28, h29, g27, hf⟩ := zbind2 hf
    refine z_callV (kc' := 0) (ks' := 0) C (MX2_readLetter (xl X) (xD X) (xT X) (xlo X) false hi g27) (OX2_readLetter g27) rfl cw_X6_260 yv_X2_readLetter dX6_simulate_93 rfl (by decide) ⟨rfl, rfl⟩ (Nat.le_of_ble_eq_true rfl) (st := [.int x21]) rfl ?_
    refine z_iadd C dX6_simulate_96 ?_
    refine z_istore C dX6_simulate_97 (by decide) (lv' := [(6, .int (x21 + x28)), (0, .ref a0)]) rfl ?_
    refine z_sipush C (v := 1000) dX6_simulate_99 (by decide) ?_
    refine z_iload C dX6_simulate_102 0 rfl ?_
    refine z_imul C dX6_simulate_104 ?_
    refine z_aload_n C dX6_simulate_105 1 rfl rfl ?_
    refine z_getR C fl_X6_36 dX6_simulate_106 hf (fun x30 hf => ?_)
    obtain ⟨x32, g31, hf⟩ := zbind hf
    refine z_callV (kc' := 0) (ks' := 0) C (MX3_countDoubtful (xl X) (xD X) (xT X) (xlo X) false hi g31) (OX3_countDoubtful g31) rfl cw_X6_112 yv_X3_countDoubtful dX6_simulate_109 rfl (by decide) ⟨rfl, rfl⟩ (Nat.le_of_ble_eq_true rfl) (st := [.int (1000 * (x21 + x28))]) rfl ?_
    refine z_iadd C dX6_simulate_112 ?_
    exact z_ireturnX CX dX6_simulate_113 (by cases hf; rfl)
theorem MX6_simulate (l : Launch) (hl9 : l.stackTraces = false) (D : va_G) (T : zT) (lo : Nat) (hi : Nat) {h : zH} {a0 : Nat} {p0 : Int64} {p1 : Int32} {x9 : Except String Int32} {h9 : zH} (hf : FX6_simulate T a0 p0 p1 h = some (x9, h9)) : zMX l yX6_simulate (.code yX6_simulate cX6_simulate 7 (some .int) :: TW) ({ frames := 7, cells := 1, slots := 6, locals := 127 } : Room) D T lo [.ref a0, .long p0, .int p1] hi h (zx cvI x9, h9) :=
  z_enterX hl9 (own := RX6) (nm := "simulate") (lv := [(0, .ref a0), (1, .long p0), (3, .int p1)]) (by decide +kernel) rfl rfl (Nat.le_of_ble_eq_true rfl) rfl (fun _ _ _ _ _ _ _ _ C => BX6_simulate C hf)
theorem OX6_simulate {T : zT} {h : zH} {a0 : Nat} {p0 : Int64} {p1 : Int32} {r9 : (Except String Int32 × zH)} (hf : FX6_simulate T a0 p0 p1 h = some r9) : ∃ fs, h a0 = some (.inr (6, fs)) := by
  obtain ⟨_, h1, _⟩ := zbind hf
  exact zo_obj h1
theorem dX6_checkSlot_0 : decode cX6_checkSlot 0 = .ok (.iload_n 0, 1) := by decide +kernel
theorem dX6_checkSlot_1 : decode cX6_checkSlot 1 = .ok (.ifCond .lt 8, 3) := by decide +kernel
theorem dX6_checkSlot_4 : decode cX6_checkSlot 4 = .ok (.iload_n 0, 1) := by decide +kernel
theorem dX6_checkSlot_5 : decode cX6_checkSlot 5 = .ok (.iconst 2, 1) := by decide +kernel
theorem dX6_checkSlot_6 : decode cX6_checkSlot 6 = .ok (.if_icmp .lt 14, 3) := by decide +kernel
theorem dX6_checkSlot_9 : decode cX6_checkSlot 9 = .ok (.new 316, 3) := by decide +kernel
theorem dX6_checkSlot_12 : decode cX6_checkSlot 12 = .ok (.dup, 1) := by decide +kernel
theorem dX6_checkSlot_13 : decode cX6_checkSlot 13 = .ok (.ldc_w 321, 3) := by decide +kernel
theorem dX6_checkSlot_16 : decode cX6_checkSlot 16 = .ok (.invokespecial 320, 3) := by decide +kernel
theorem dX6_checkSlot_19 : decode cX6_checkSlot 19 = .ok (.athrow, 1) := by decide +kernel
theorem dX6_checkSlot_20 : decode cX6_checkSlot 20 = .ok (.return_, 1) := by decide +kernel
def FX6_checkSlot (T : zT) (p0 : Int32) (h : zH) : Option (Except String Unit × zH) := zJ (fun (u9 : Unit) => some (.error "java/lang/IndexOutOfBoundsException", h)) (fun J1 => if p0 < 0 then (J1 ()) else (if p0 < 2 then (some (.ok (), h)) else (J1 ())))
set_option maxHeartbeats 4000000 in
set_option maxRecDepth 100000 in
theorem BX6_checkSlot {X : zX} (CX : zCX X cX6_checkSlot 1 RX6 "checkSlot" none 6 90) {hi : Nat} {h : zH} {p0 : Int32} {r9 : (Except String Unit × zH)} (hf : FX6_checkSlot (xT X) p0 h = some r9) : zW X 1 (zZX X (zx cvU r9.1, r9.2)) 1 6 false hi h 0 [(0, .int p0)] [] := by
  have C := CX.1
  unfold FX6_checkSlot at hf
  refine z_join (P := fun J => ∀ (u9 : Unit), J u9 = some r9 → zW X 1 (zZX X (zx cvU r9.1, r9.2)) 1 6 false hi h 9 [] []) hf ?_ ?_
  · intro u9 hf
    exact z_throwW CX ts_X6_321 dX6_checkSlot_9 dX6_checkSlot_12 dX6_checkSlot_13 dX6_checkSlot_16 dX6_checkSlot_19 ⟨Nat.le_of_ble_eq_true rfl, Nat.le_of_ble_eq_true rfl⟩ ⟨by decide, by decide⟩ (by cases hf; rfl)
  · intro J1 kJ1 hf
    refine z_iload_n C dX6_checkSlot_0 0 rfl rfl ?_
    refine z_if_lt (tgt := 9) C dX6_checkSlot_1 (by decide) hf (fun hf => ?_) (fun hf => ?_)
    · refine z_sub [] rfl ?_
      exact kJ1 _ hf
    · refine z_iload_n C dX6_checkSlot_4 0 rfl rfl ?_
      refine z_iconst C (v := 2) dX6_checkSlot_5 (by decide) ?_
      refine z_icmp_lt (tgt := 20) C dX6_checkSlot_6 (by decide) hf (fun hf => ?_) (fun hf => ?_)
      · exact z_vreturnX CX dX6_checkSlot_20 (by cases hf; rfl)
      · refine z_sub [] rfl ?_
        exact kJ1 _ hf
theorem MX6_checkSlot (l : Launch) (hl9 : l.stackTraces = false) (D : va_G) (T : zT) (lo : Nat) (hi : Nat) {h : zH} {p0 : Int32} {x9 : Except String Unit} {h9 : zH} (hf : FX6_checkSlot T p0 h = some (x9, h9)) : zMX l yX6_checkSlot (.code yX6_checkSlot cX6_checkSlot 1 none :: TW) ({ frames := 6, cells := 1, slots := 6, locals := 90 } : Room) D T lo [.int p0] hi h (zx cvU x9, h9) :=
  z_enterX hl9 (own := RX6) (nm := "checkSlot") (lv := [(0, .int p0)]) (by decide +kernel) rfl rfl (Nat.le_of_ble_eq_true rfl) rfl (fun _ _ _ _ _ _ _ _ C => BX6_checkSlot C hf)
theorem dX6_save_0 : decode cX6_save 0 = .ok (.iload_n 1, 1) := by decide +kernel
theorem dX6_save_1 : decode cX6_save 1 = .ok (.invokestatic 296, 3) := by decide +kernel
theorem dX6_save_4 : decode cX6_save 4 = .ok (.aload_n 0, 1) := by decide +kernel
theorem dX6_save_5 : decode cX6_save 5 = .ok (.getfield 52, 3) := by decide +kernel
theorem dX6_save_8 : decode cX6_save 8 = .ok (.iload_n 1, 1) := by decide +kernel
theorem dX6_save_9 : decode cX6_save 9 = .ok (.aload_n 0, 1) := by decide +kernel
theorem dX6_save_10 : decode cX6_save 10 = .ok (.getfield 32, 3) := by decide +kernel
theorem dX6_save_13 : decode cX6_save 13 = .ok (.invokevirtual 299, 3) := by decide +kernel
theorem dX6_save_16 : decode cX6_save 16 = .ok (.aload_n 0, 1) := by decide +kernel
theorem dX6_save_17 : decode cX6_save 17 = .ok (.getfield 32, 3) := by decide +kernel
theorem dX6_save_20 : decode cX6_save 20 = .ok (.invokevirtual 103, 3) := by decide +kernel
theorem dX6_save_23 : decode cX6_save 23 = .ok (.ireturn, 1) := by decide +kernel
def FX6_save (T : zT) (a0 : Nat) (p0 : Int32) (h : zH) : Option (Except String Int32 × zH) := (zo h a0 6).bind fun _ => zbx (FX6_checkSlot T p0 h) fun x2 h3 => (zgr h3 a0 6 7).bind fun x4 => (zgr h3 a0 6 3).bind fun x5 => (FX4_store T x4 p0 x5 h3).bind fun h7 => (zgr h7 a0 6 3).bind fun x8 => (FX3_countMarks T x8 h7).bind fun x10 => some (.ok x10, h7)
set_option maxHeartbeats 4000000 in
set_option maxRecDepth 100000 in
theorem BX6_save {X : zX} (CX : zCX X cX6_save 2 RX6 "save" (some .int) 7 110) {hi : Nat} {h : zH} {a0 : Nat} {p0 : Int32} {r9 : (Except String Int32 × zH)} (hf : FX6_save (xT X) a0 p0 h = some r9) : zW X 2 (zZX X (zx cvI r9.1, r9.2)) 1 6 false hi h 0 [(0, .ref a0), (1, .int p0)] [] := by
  have C := CX.1
  unfold FX6_save at hf
  obtain ⟨_, _, hf⟩ := zbind hf
  refine z_iload_n C dX6_save_0 1 rfl rfl ?_
  refine z_callSX (kc' := 0) (ks' := 0) CX hf (fun _ _ e => MX6_checkSlot (xl X) CX.2.2.2 (xD X) (xT X) (xlo X) hi e) cw_X6_296 ys_X6_checkSlot dX6_save_1 rfl (by decide) ⟨rfl, rfl⟩ (Nat.le_of_ble_eq_true rfl) (st := []) rfl (fun x2 h3 hf => ?_)
  refine z_aload_n C dX6_save_4 0 rfl rfl ?_
  refine z_getR C fl_X6_52 dX6_save_5 hf (fun x4 hf => ?_)
  refine z_iload_n C dX6_save_8 1 rfl rfl ?_
  refine z_aload_n C dX6_save_9 0 rfl rfl ?_
  refine z_getR C fl_X6_32 dX6_save_10 hf (fun x5 hf => ?_)
  obtain ⟨h7, g6, hf⟩ := zbind hf
  refine z_callV (kc' := 0) (ks' := 0) C (MX4_store (xl X) (xD X) (xT X) (xlo X) hi g6) (OX4_store g6) rfl cw_X6_299 yv_X4_store dX6_save_13 rfl (by decide) ⟨rfl, rfl⟩ (Nat.le_of_ble_eq_true rfl) (st := []) rfl ?_
  refine z_aload_n C dX6_save_16 0 rfl rfl ?_
  refine z_getR C fl_X6_32 dX6_save_17 hf (fun x8 hf => ?_)
  obtain ⟨x10, g9, hf⟩ := zbind hf
  refine z_callV (kc' := 0) (ks' := 0) C (MX3_countMarks (xl X) (xD X) (xT X) (xlo X) false hi g9) (OX3_countMarks g9) rfl cw_X6_103 yv_X3_countMarks dX6_save_20 rfl (by decide) ⟨rfl, rfl⟩ (Nat.le_of_ble_eq_true rfl) (st := []) rfl ?_
  exact z_ireturnX CX dX6_save_23 (by cases hf; rfl)
theorem MX6_save (l : Launch) (hl9 : l.stackTraces = false) (D : va_G) (T : zT) (lo : Nat) (hi : Nat) {h : zH} {a0 : Nat} {p0 : Int32} {x9 : Except String Int32} {h9 : zH} (hf : FX6_save T a0 p0 h = some (x9, h9)) : zMX l yX6_save (.code yX6_save cX6_save 2 (some .int) :: TW) ({ frames := 7, cells := 1, slots := 6, locals := 110 } : Room) D T lo [.ref a0, .int p0] hi h (zx cvI x9, h9) :=
  z_enterX hl9 (own := RX6) (nm := "save") (lv := [(0, .ref a0), (1, .int p0)]) (by decide +kernel) rfl rfl (Nat.le_of_ble_eq_true rfl) rfl (fun _ _ _ _ _ _ _ _ C => BX6_save C hf)
theorem OX6_save {T : zT} {h : zH} {a0 : Nat} {p0 : Int32} {r9 : (Except String Int32 × zH)} (hf : FX6_save T a0 p0 h = some r9) : ∃ fs, h a0 = some (.inr (6, fs)) := by
  obtain ⟨_, h1, _⟩ := zbind hf
  exact zo_obj h1
theorem dX6_restore_0 : decode cX6_restore 0 = .ok (.iload_n 1, 1) := by decide +kernel
theorem dX6_restore_1 : decode cX6_restore 1 = .ok (.invokestatic 296, 3) := by decide +kernel
theorem dX6_restore_4 : decode cX6_restore 4 = .ok (.aload_n 0, 1) := by decide +kernel
theorem dX6_restore_5 : decode cX6_restore 5 = .ok (.getfield 52, 3) := by decide +kernel
theorem dX6_restore_8 : decode cX6_restore 8 = .ok (.iload_n 1, 1) := by decide +kernel
theorem dX6_restore_9 : decode cX6_restore 9 = .ok (.invokevirtual 303, 3) := by decide +kernel
theorem dX6_restore_12 : decode cX6_restore 12 = .ok (.ifCond .ne 14, 3) := by decide +kernel
theorem dX6_restore_15 : decode cX6_restore 15 = .ok (.new 76, 3) := by decide +kernel
theorem dX6_restore_18 : decode cX6_restore 18 = .ok (.dup, 1) := by decide +kernel
theorem dX6_restore_19 : decode cX6_restore 19 = .ok (.ldc_w 306, 3) := by decide +kernel
theorem dX6_restore_22 : decode cX6_restore 22 = .ok (.invokespecial 80, 3) := by decide +kernel
theorem dX6_restore_25 : decode cX6_restore 25 = .ok (.athrow, 1) := by decide +kernel
theorem dX6_restore_26 : decode cX6_restore 26 = .ok (.aload_n 0, 1) := by decide +kernel
theorem dX6_restore_27 : decode cX6_restore 27 = .ok (.getfield 52, 3) := by decide +kernel
theorem dX6_restore_30 : decode cX6_restore 30 = .ok (.iload_n 1, 1) := by decide +kernel
theorem dX6_restore_31 : decode cX6_restore 31 = .ok (.aload_n 0, 1) := by decide +kernel
theorem dX6_restore_32 : decode cX6_restore 32 = .ok (.getfield 32, 3) := by decide +kernel
theorem dX6_restore_35 : decode cX6_restore 35 = .ok (.invokevirtual 308, 3) := by decide +kernel
theorem dX6_restore_38 : decode cX6_restore 38 = .ok (.aload_n 0, 1) := by decide +kernel
theorem dX6_restore_39 : decode cX6_restore 39 = .ok (.getfield 45, 3) := by decide +kernel
theorem dX6_restore_42 : decode cX6_restore 42 = .ok (.invokevirtual 97, 3) := by decide +kernel
theorem dX6_restore_45 : decode cX6_restore 45 = .ok (.aload_n 0, 1) := by decide +kernel
theorem dX6_restore_46 : decode cX6_restore 46 = .ok (.getfield 32, 3) := by decide +kernel
theorem dX6_restore_49 : decode cX6_restore 49 = .ok (.invokevirtual 103, 3) := by decide +kernel
theorem dX6_restore_52 : decode cX6_restore 52 = .ok (.ireturn, 1) := by decide +kernel
def FX6_restore (T : zT) (a0 : Nat) (p0 : Int32) (h : zH) : Option (Except String Int32 × zH) := (zo h a0 6).bind fun _ => zbx (FX6_checkSlot T p0 h) fun x2 h3 => (zgr h3 a0 6 7).bind fun x4 => (FX4_holds T x4 p0 h3).bind fun x6 => if x6 = 0 then (some (.error "java/lang/IllegalStateException", h3)) else ((zgr h3 a0 6 7).bind fun x7 => (zgr h3 a0 6 3).bind fun x8 => (FX4_fetch T x7 p0 x8 h3).bind fun h10 => (zgr h10 a0 6 6).bind fun x11 => (FX0_forget T x11 h10).bind fun h13 => (zgr h13 a0 6 3).bind fun x14 => (FX3_countMarks T x14 h13).bind fun x16 => some (.ok x16, h13))
set_option maxHeartbeats 4000000 in
set_option maxRecDepth 100000 in
theorem BX6_restore {X : zX} (CX : zCX X cX6_restore 2 RX6 "restore" (some .int) 7 110) {hi : Nat} {h : zH} {a0 : Nat} {p0 : Int32} {r9 : (Except String Int32 × zH)} (hf : FX6_restore (xT X) a0 p0 h = some r9) : zW X 2 (zZX X (zx cvI r9.1, r9.2)) 2 12 false hi h 0 [(0, .ref a0), (1, .int p0)] [] := by
  have C := CX.1
  unfold FX6_restore at hf
  obtain ⟨_, _, hf⟩ := zbind hf
  refine z_iload_n C dX6_restore_0 1 rfl rfl ?_
  refine z_callSX (kc' := 1) (ks' := 6) CX hf (fun _ _ e => MX6_checkSlot (xl X) CX.2.2.2 (xD X) (xT X) (xlo X) hi e) cw_X6_296 ys_X6_checkSlot dX6_restore_1 rfl (by decide) ⟨rfl, rfl⟩ (Nat.le_of_ble_eq_true rfl) (st := []) rfl (fun x2 h3 hf => ?_)
  refine z_aload_n C dX6_restore_4 0 rfl rfl ?_
  refine z_getR C fl_X6_52 dX6_restore_5 hf (fun x4 hf => ?_)
  refine z_iload_n C dX6_restore_8 1 rfl rfl ?_
  obtain ⟨x6, g5, hf⟩ := zbind hf
  refine z_callV (kc' := 1) (ks' := 6) C (MX4_holds (xl X) (xD X) (xT X) (xlo X) false hi g5) (OX4_holds g5) rfl cw_X6_303 yv_X4_holds dX6_restore_9 rfl (by decide) ⟨rfl, rfl⟩ (Nat.le_of_ble_eq_true rfl) (st := []) rfl ?_
  refine z_if_ne (tgt := 26) C dX6_restore_12 (by decide) hf (fun hf => ?_) (fun hf => ?_)
  · refine z_aload_n C dX6_restore_26 0 rfl rfl ?_
    refine z_getR C fl_X6_52 dX6_restore_27 hf (fun x7 hf => ?_)
    refine z_iload_n C dX6_restore_30 1 rfl rfl ?_
    refine z_aload_n C dX6_restore_31 0 rfl rfl ?_
    refine z_getR C fl_X6_32 dX6_restore_32 hf (fun x8 hf => ?_)
    obtain ⟨h10, g9, hf⟩ := zbind hf
    refine z_callV (kc' := 1) (ks' := 6) C (MX4_fetch (xl X) (xD X) (xT X) (xlo X) hi g9) (OX4_fetch g9) rfl cw_X6_308 yv_X4_fetch dX6_restore_35 rfl (by decide) ⟨rfl, rfl⟩ (Nat.le_of_ble_eq_true rfl) (st := []) rfl ?_
    refine z_aload_n C dX6_restore_38 0 rfl rfl ?_
    refine z_getR C fl_X6_45 dX6_restore_39 hf (fun x11 hf => ?_)
    obtain ⟨h13, g12, hf⟩ := zbind hf
    refine z_callV (kc' := 1) (ks' := 6) C (MX0_forget (xl X) (xD X) (xT X) (xlo X) false hi g12) (OX0_forget g12) rfl cw_X6_97 yv_X0_forget dX6_restore_42 rfl (by decide) ⟨rfl, rfl⟩ (Nat.le_of_ble_eq_true rfl) (st := []) rfl ?_
    refine z_aload_n C dX6_restore_45 0 rfl rfl ?_
    refine z_getR C fl_X6_32 dX6_restore_46 hf (fun x14 hf => ?_)
    obtain ⟨x16, g15, hf⟩ := zbind hf
    refine z_callV (kc' := 1) (ks' := 6) C (MX3_countMarks (xl X) (xD X) (xT X) (xlo X) false hi g15) (OX3_countMarks g15) rfl cw_X6_103 yv_X3_countMarks dX6_restore_49 rfl (by decide) ⟨rfl, rfl⟩ (Nat.le_of_ble_eq_true rfl) (st := []) rfl ?_
    exact z_ireturnX CX dX6_restore_52 (by cases hf; rfl)
  · exact z_throwW CX ts_X6_306 dX6_restore_15 dX6_restore_18 dX6_restore_19 dX6_restore_22 dX6_restore_25 ⟨Nat.le_of_ble_eq_true rfl, Nat.le_of_ble_eq_true rfl⟩ ⟨by decide, by decide⟩ (by cases hf; rfl)
theorem MX6_restore (l : Launch) (hl9 : l.stackTraces = false) (D : va_G) (T : zT) (lo : Nat) (hi : Nat) {h : zH} {a0 : Nat} {p0 : Int32} {x9 : Except String Int32} {h9 : zH} (hf : FX6_restore T a0 p0 h = some (x9, h9)) : zMX l yX6_restore (.code yX6_restore cX6_restore 2 (some .int) :: TW) ({ frames := 7, cells := 2, slots := 12, locals := 110 } : Room) D T lo [.ref a0, .int p0] hi h (zx cvI x9, h9) :=
  z_enterX hl9 (own := RX6) (nm := "restore") (lv := [(0, .ref a0), (1, .int p0)]) (by decide +kernel) rfl rfl (Nat.le_of_ble_eq_true rfl) rfl (fun _ _ _ _ _ _ _ _ C => BX6_restore C hf)
theorem OX6_restore {T : zT} {h : zH} {a0 : Nat} {p0 : Int32} {r9 : (Except String Int32 × zH)} (hf : FX6_restore T a0 p0 h = some r9) : ∃ fs, h a0 = some (.inr (6, fs)) := by
  obtain ⟨_, h1, _⟩ := zbind hf
  exact zo_obj h1
