theorem mw_5 : (Jvm.Cond.selects "CrossedSheet$Reading" ({ cls := "CrossedSheet$Reading", name := "goTo", desc := "(III)V" } : Jvm.MethodName) ({ cls := "CrossedSheet$Reading", name := "goTo", desc := "(III)V" } : Jvm.MethodName)) ∈ TW := TWm 5 (by decide +kernel) (by decide +kernel)
theorem mw_6 : (Jvm.Cond.selects "CrossedSheet$Reading" ({ cls := "CrossedSheet$Reading", name := "takeSign", desc := "(I)V" } : Jvm.MethodName) ({ cls := "CrossedSheet$Reading", name := "takeSign", desc := "(I)V" } : Jvm.MethodName)) ∈ TW := TWm 6 (by decide +kernel) (by decide +kernel)
theorem mw_8 : (Jvm.Cond.selects "CrossedSheet$TextReader" ({ cls := "CrossedSheet$TextReader", name := "takeSetting", desc := "(LCrossedSheet$Sheet;I)V" } : Jvm.MethodName) ({ cls := "CrossedSheet$TextReader", name := "takeSetting", desc := "(LCrossedSheet$Sheet;I)V" } : Jvm.MethodName)) ∈ TW := TWm 8 (by decide +kernel) (by decide +kernel)
theorem mw_9 : (Jvm.Cond.selects "CrossedSheet$TextReader" ({ cls := "CrossedSheet$TextReader", name := "takeOfMark", desc := "(LCrossedSheet$Sheet;I)V" } : Jvm.MethodName) ({ cls := "CrossedSheet$TextReader", name := "takeOfMark", desc := "(LCrossedSheet$Sheet;I)V" } : Jvm.MethodName)) ∈ TW := TWm 9 (by decide +kernel) (by decide +kernel)
theorem mw_10 : (Jvm.Cond.selects "CrossedSheet$TextReader" ({ cls := "CrossedSheet$TextReader", name := "takeOfLetter", desc := "(LCrossedSheet$Sheet;I)V" } : Jvm.MethodName) ({ cls := "CrossedSheet$TextReader", name := "takeOfLetter", desc := "(LCrossedSheet$Sheet;I)V" } : Jvm.MethodName)) ∈ TW := TWm 10 (by decide +kernel) (by decide +kernel)
theorem mw_28 : (Jvm.Cond.initialized "CrossedSheet$TextReader") ∈ TW := TWm 28 (by decide +kernel) (by decide +kernel)
theorem mw_32 : (Jvm.Cond.initialized "CrossedSheet$Reading") ∈ TW := TWm 32 (by decide +kernel) (by decide +kernel)
theorem mw_65 : (Jvm.Cond.methodLink "CrossedSheet$TextReader" (3 : Nat) ({ cls := "java/lang/Object", name := "<init>", desc := "()V" } : Jvm.MethodName)) ∈ TW := TWm 65 (by decide +kernel) (by decide +kernel)
theorem mw_66 : (Jvm.Cond.fieldLink "CrossedSheet$TextReader" (16 : Nat) "CrossedSheet$TextReader" "awaited" "I") ∈ TW := TWm 66 (by decide +kernel) (by decide +kernel)
theorem mw_67 : (Jvm.Cond.fieldLink "CrossedSheet$TextReader" (32 : Nat) "CrossedSheet$TextReader" "column" "I") ∈ TW := TWm 67 (by decide +kernel) (by decide +kernel)
theorem mw_68 : (Jvm.Cond.fieldLink "CrossedSheet$TextReader" (64 : Nat) "CrossedSheet$TextReader" "row" "I") ∈ TW := TWm 68 (by decide +kernel) (by decide +kernel)
theorem mw_69 : (Jvm.Cond.fieldLink "CrossedSheet$TextReader" (67 : Nat) "CrossedSheet$TextReader" "sign" "I") ∈ TW := TWm 69 (by decide +kernel) (by decide +kernel)
theorem mw_70 : (Jvm.Cond.fieldLink "CrossedSheet$TextReader" (77 : Nat) "CrossedSheet$TextReader" "letter" "I") ∈ TW := TWm 70 (by decide +kernel) (by decide +kernel)
theorem mw_71 : (Jvm.Cond.fieldLink "CrossedSheet$TextReader" (70 : Nat) "CrossedSheet$TextReader" "ink" "I") ∈ TW := TWm 71 (by decide +kernel) (by decide +kernel)
theorem mw_72 : (Jvm.Cond.fieldLink "CrossedSheet$TextReader" (80 : Nat) "CrossedSheet$TextReader" "slant" "I") ∈ TW := TWm 72 (by decide +kernel) (by decide +kernel)
theorem mw_97 : (Jvm.Cond.instanceMethod ({ cls := "CrossedSheet$Sheet", name := "makeNew", desc := "()V" } : Jvm.MethodName)) ∈ TW := TWm 97 (by decide +kernel) (by decide +kernel)
theorem mw_98 : (Jvm.Cond.selects "CrossedSheet$Sheet" ({ cls := "CrossedSheet$Sheet", name := "makeNew", desc := "()V" } : Jvm.MethodName) ({ cls := "CrossedSheet$Sheet", name := "makeNew", desc := "()V" } : Jvm.MethodName)) ∈ TW := TWm 98 (by decide +kernel) (by decide +kernel)
theorem mw_99 : (Jvm.Cond.code ({ cls := "CrossedSheet$Sheet", name := "makeNew", desc := "()V" } : Jvm.MethodName) prog_5_method_2_code (1 : Nat) (Option.none : Option Jvm.ClassFile.FieldType)) ∈ TW := TWm 99 (by decide +kernel) (by decide +kernel)
theorem mw_116 : (Jvm.Cond.fieldLink "CrossedSheet$Reading" (51 : Nat) "CrossedSheet$Sheet" "width" "I") ∈ TW := TWm 116 (by decide +kernel) (by decide +kernel)
theorem mw_119 : (Jvm.Cond.fieldLink "CrossedSheet$TextReader" (52 : Nat) "CrossedSheet$Sheet" "width" "I") ∈ TW := TWm 119 (by decide +kernel) (by decide +kernel)
theorem mw_120 : (Jvm.Cond.fieldLink "CrossedSheet$Reading" (48 : Nat) "CrossedSheet$Sheet" "height" "I") ∈ TW := TWm 120 (by decide +kernel) (by decide +kernel)
theorem mw_123 : (Jvm.Cond.fieldLink "CrossedSheet$TextReader" (55 : Nat) "CrossedSheet$Sheet" "height" "I") ∈ TW := TWm 123 (by decide +kernel) (by decide +kernel)
theorem mw_126 : (Jvm.Cond.fieldLink "CrossedSheet$TextReader" (61 : Nat) "CrossedSheet$Sheet" "margin" "I") ∈ TW := TWm 126 (by decide +kernel) (by decide +kernel)
theorem mw_129 : (Jvm.Cond.fieldLink "CrossedSheet$TextReader" (58 : Nat) "CrossedSheet$Sheet" "gap" "I") ∈ TW := TWm 129 (by decide +kernel) (by decide +kernel)
theorem mw_135 : (Jvm.Cond.fieldLink "CrossedSheet$Reading" (39 : Nat) "CrossedSheet$Sheet" "letterWays" "LCrossedSheet$Numbers;") ∈ TW := TWm 135 (by decide +kernel) (by decide +kernel)
theorem mw_139 : (Jvm.Cond.fieldLink "CrossedSheet$Reading" (66 : Nat) "CrossedSheet$Sheet" "signs" "LCrossedSheet$Numbers;") ∈ TW := TWm 139 (by decide +kernel) (by decide +kernel)
theorem mw_217 : (Jvm.Cond.fieldLink "CrossedSheet$Reading" (26 : Nat) "CrossedSheet$Reading" "wordCount" "I") ∈ TW := TWm 217 (by decide +kernel) (by decide +kernel)
theorem mw_219 : (Jvm.Cond.fieldLink "CrossedSheet$Reading" (30 : Nat) "CrossedSheet$Reading" "markCount" "I") ∈ TW := TWm 219 (by decide +kernel) (by decide +kernel)
theorem mw_221 : (Jvm.Cond.fieldLink "CrossedSheet$Reading" (14 : Nat) "CrossedSheet$Reading" "wordsOfCells" "LCrossedSheet$Numbers;") ∈ TW := TWm 221 (by decide +kernel) (by decide +kernel)
theorem mw_223 : (Jvm.Cond.fieldLink "CrossedSheet$Reading" (20 : Nat) "CrossedSheet$Reading" "signs" "LCrossedSheet$Numbers;") ∈ TW := TWm 223 (by decide +kernel) (by decide +kernel)
theorem mw_224 : (Jvm.Cond.fieldLink "CrossedSheet$Reading" (23 : Nat) "CrossedSheet$Reading" "starts" "LCrossedSheet$Numbers;") ∈ TW := TWm 224 (by decide +kernel) (by decide +kernel)
theorem mw_225 : (Jvm.Cond.fieldLink "CrossedSheet$Reading" (33 : Nat) "CrossedSheet$Reading" "signCount" "I") ∈ TW := TWm 225 (by decide +kernel) (by decide +kernel)
theorem mw_226 : (Jvm.Cond.fieldLink "CrossedSheet$Reading" (81 : Nat) "CrossedSheet$Reading" "lastLine" "I") ∈ TW := TWm 226 (by decide +kernel) (by decide +kernel)
theorem mw_227 : (Jvm.Cond.fieldLink "CrossedSheet$Reading" (87 : Nat) "CrossedSheet$Reading" "lastPosition" "I") ∈ TW := TWm 227 (by decide +kernel) (by decide +kernel)
theorem mw_228 : (Jvm.Cond.fieldLink "CrossedSheet$Reading" (84 : Nat) "CrossedSheet$Reading" "lastSign" "I") ∈ TW := TWm 228 (by decide +kernel) (by decide +kernel)
theorem mw_421 : (Jvm.Cond.instanceMethod ({ cls := "CrossedSheet$Sheet", name := "addMark", desc := "(IIIII)V" } : Jvm.MethodName)) ∈ TW := TWm 421 (by decide +kernel) (by decide +kernel)
theorem mw_422 : (Jvm.Cond.selects "CrossedSheet$Sheet" ({ cls := "CrossedSheet$Sheet", name := "addMark", desc := "(IIIII)V" } : Jvm.MethodName) ({ cls := "CrossedSheet$Sheet", name := "addMark", desc := "(IIIII)V" } : Jvm.MethodName)) ∈ TW := TWm 422 (by decide +kernel) (by decide +kernel)
theorem mw_423 : (Jvm.Cond.code ({ cls := "CrossedSheet$Sheet", name := "addMark", desc := "(IIIII)V" } : Jvm.MethodName) prog_5_method_13_code (7 : Nat) (Option.none : Option Jvm.ClassFile.FieldType)) ∈ TW := TWm 423 (by decide +kernel) (by decide +kernel)
theorem mw_429 : (Jvm.Cond.methodLink "CrossedSheet$Reading" (36 : Nat) ({ cls := "CrossedSheet$Numbers", name := "fill", desc := "(I)V" } : Jvm.MethodName)) ∈ TW := TWm 429 (by decide +kernel) (by decide +kernel)
theorem mw_430 : (Jvm.Cond.methodLink "CrossedSheet$Reading" (44 : Nat) ({ cls := "CrossedSheet$Numbers", name := "at", desc := "(I)I" } : Jvm.MethodName)) ∈ TW := TWm 430 (by decide +kernel) (by decide +kernel)
theorem mw_431 : (Jvm.Cond.methodLink "CrossedSheet$Reading" (54 : Nat) ({ cls := "CrossedSheet$Sheet", name := "ownerOfFirst", desc := "(II)I" } : Jvm.MethodName)) ∈ TW := TWm 431 (by decide +kernel) (by decide +kernel)
theorem mw_432 : (Jvm.Cond.instanceMethod ({ cls := "CrossedSheet$Sheet", name := "ownerOfFirst", desc := "(II)I" } : Jvm.MethodName)) ∈ TW := TWm 432 (by decide +kernel) (by decide +kernel)
theorem mw_433 : (Jvm.Cond.selects "CrossedSheet$Sheet" ({ cls := "CrossedSheet$Sheet", name := "ownerOfFirst", desc := "(II)I" } : Jvm.MethodName) ({ cls := "CrossedSheet$Sheet", name := "ownerOfFirst", desc := "(II)I" } : Jvm.MethodName)) ∈ TW := TWm 433 (by decide +kernel) (by decide +kernel)
theorem mw_434 : (Jvm.Cond.code ({ cls := "CrossedSheet$Sheet", name := "ownerOfFirst", desc := "(II)I" } : Jvm.MethodName) prog_5_method_24_code (6 : Nat) (Option.some Jvm.ClassFile.FieldType.int)) ∈ TW := TWm 434 (by decide +kernel) (by decide +kernel)
theorem mw_450 : (Jvm.Cond.methodLink "CrossedSheet$Reading" (58 : Nat) ({ cls := "CrossedSheet$Sheet", name := "hasMark", desc := "(III)Z" } : Jvm.MethodName)) ∈ TW := TWm 450 (by decide +kernel) (by decide +kernel)
theorem mw_451 : (Jvm.Cond.methodLink "CrossedSheet$Reading" (62 : Nat) ({ cls := "CrossedSheet$Reading", name := "goTo", desc := "(III)V" } : Jvm.MethodName)) ∈ TW := TWm 451 (by decide +kernel) (by decide +kernel)
theorem mw_453 : (Jvm.Cond.instanceMethod ({ cls := "CrossedSheet$Reading", name := "goTo", desc := "(III)V" } : Jvm.MethodName)) ∈ TW := TWm 453 (by decide +kernel) (by decide +kernel)
theorem mw_454 : (Jvm.Cond.code ({ cls := "CrossedSheet$Reading", name := "goTo", desc := "(III)V" } : Jvm.MethodName) prog_4_method_3_code (7 : Nat) (Option.none : Option Jvm.ClassFile.FieldType)) ∈ TW := TWm 454 (by decide +kernel) (by decide +kernel)
theorem mw_455 : (Jvm.Cond.methodLink "CrossedSheet$Reading" (77 : Nat) ({ cls := "CrossedSheet$Numbers", name := "put", desc := "(II)V" } : Jvm.MethodName)) ∈ TW := TWm 455 (by decide +kernel) (by decide +kernel)
theorem mw_457 : (Jvm.Cond.methodLink "CrossedSheet$Reading" (71 : Nat) ({ cls := "CrossedSheet$Reading", name := "takeSign", desc := "(I)V" } : Jvm.MethodName)) ∈ TW := TWm 457 (by decide +kernel) (by decide +kernel)
theorem mw_459 : (Jvm.Cond.instanceMethod ({ cls := "CrossedSheet$Reading", name := "takeSign", desc := "(I)V" } : Jvm.MethodName)) ∈ TW := TWm 459 (by decide +kernel) (by decide +kernel)
theorem mw_460 : (Jvm.Cond.code ({ cls := "CrossedSheet$Reading", name := "takeSign", desc := "(I)V" } : Jvm.MethodName) prog_4_method_4_code (2 : Nat) (Option.none : Option Jvm.ClassFile.FieldType)) ∈ TW := TWm 460 (by decide +kernel) (by decide +kernel)
theorem mw_466 : (Jvm.Cond.methodLink "CrossedSheet$Sheet" (140 : Nat) ({ cls := "CrossedSheet$Sheet", name := "ownerOfFirst", desc := "(II)I" } : Jvm.MethodName)) ∈ TW := TWm 466 (by decide +kernel) (by decide +kernel)
theorem mw_524 : (Jvm.Cond.methodLink "CrossedSheet$TextReader" (9 : Nat) ({ cls := "CrossedSheet$Sheet", name := "makeNew", desc := "()V" } : Jvm.MethodName)) ∈ TW := TWm 524 (by decide +kernel) (by decide +kernel)
theorem mw_530 : (Jvm.Cond.methodLink "CrossedSheet$TextReader" (20 : Nat) ({ cls := "CrossedSheet$TextReader", name := "digitOf", desc := "(I)I" } : Jvm.MethodName)) ∈ TW := TWm 530 (by decide +kernel) (by decide +kernel)
theorem mw_531 : (Jvm.Cond.static ({ cls := "CrossedSheet$TextReader", name := "digitOf", desc := "(I)I" } : Jvm.MethodName)) ∈ TW := TWm 531 (by decide +kernel) (by decide +kernel)
theorem mw_532 : (Jvm.Cond.code ({ cls := "CrossedSheet$TextReader", name := "digitOf", desc := "(I)I" } : Jvm.MethodName) prog_7_method_6_code (1 : Nat) (Option.some Jvm.ClassFile.FieldType.int)) ∈ TW := TWm 532 (by decide +kernel) (by decide +kernel)
theorem mw_533 : (Jvm.Cond.methodLink "CrossedSheet$TextReader" (24 : Nat) ({ cls := "CrossedSheet$Sheet", name := "hasRoomAnywhere", desc := "()Z" } : Jvm.MethodName)) ∈ TW := TWm 533 (by decide +kernel) (by decide +kernel)
theorem mw_534 : (Jvm.Cond.instanceMethod ({ cls := "CrossedSheet$Sheet", name := "hasRoomAnywhere", desc := "()Z" } : Jvm.MethodName)) ∈ TW := TWm 534 (by decide +kernel) (by decide +kernel)
theorem mw_535 : (Jvm.Cond.selects "CrossedSheet$Sheet" ({ cls := "CrossedSheet$Sheet", name := "hasRoomAnywhere", desc := "()Z" } : Jvm.MethodName) ({ cls := "CrossedSheet$Sheet", name := "hasRoomAnywhere", desc := "()Z" } : Jvm.MethodName)) ∈ TW := TWm 535 (by decide +kernel) (by decide +kernel)
theorem mw_536 : (Jvm.Cond.code ({ cls := "CrossedSheet$Sheet", name := "hasRoomAnywhere", desc := "()Z" } : Jvm.MethodName) prog_5_method_12_code (2 : Nat) (Option.some Jvm.ClassFile.FieldType.boolean)) ∈ TW := TWm 536 (by decide +kernel) (by decide +kernel)
theorem mw_541 : (Jvm.Cond.methodLink "CrossedSheet$TextReader" (28 : Nat) ({ cls := "CrossedSheet$Sheet", name := "columnHasRoom", desc := "(I)Z" } : Jvm.MethodName)) ∈ TW := TWm 541 (by decide +kernel) (by decide +kernel)
theorem mw_542 : (Jvm.Cond.methodLink "CrossedSheet$TextReader" (35 : Nat) ({ cls := "CrossedSheet$Sheet", name := "hasRoom", desc := "(II)Z" } : Jvm.MethodName)) ∈ TW := TWm 542 (by decide +kernel) (by decide +kernel)
theorem mw_550 : (Jvm.Cond.methodLink "CrossedSheet$TextReader" (42 : Nat) ({ cls := "CrossedSheet$TextReader", name := "takeSetting", desc := "(LCrossedSheet$Sheet;I)V" } : Jvm.MethodName)) ∈ TW := TWm 550 (by decide +kernel) (by decide +kernel)
theorem mw_552 : (Jvm.Cond.instanceMethod ({ cls := "CrossedSheet$TextReader", name := "takeSetting", desc := "(LCrossedSheet$Sheet;I)V" } : Jvm.MethodName)) ∈ TW := TWm 552 (by decide +kernel) (by decide +kernel)
theorem mw_553 : (Jvm.Cond.code ({ cls := "CrossedSheet$TextReader", name := "takeSetting", desc := "(LCrossedSheet$Sheet;I)V" } : Jvm.MethodName) prog_7_method_7_code (3 : Nat) (Option.none : Option Jvm.ClassFile.FieldType)) ∈ TW := TWm 553 (by decide +kernel) (by decide +kernel)
theorem mw_554 : (Jvm.Cond.methodLink "CrossedSheet$TextReader" (46 : Nat) ({ cls := "CrossedSheet$TextReader", name := "takeOfMark", desc := "(LCrossedSheet$Sheet;I)V" } : Jvm.MethodName)) ∈ TW := TWm 554 (by decide +kernel) (by decide +kernel)
theorem mw_556 : (Jvm.Cond.instanceMethod ({ cls := "CrossedSheet$TextReader", name := "takeOfMark", desc := "(LCrossedSheet$Sheet;I)V" } : Jvm.MethodName)) ∈ TW := TWm 556 (by decide +kernel) (by decide +kernel)
theorem mw_557 : (Jvm.Cond.code ({ cls := "CrossedSheet$TextReader", name := "takeOfMark", desc := "(LCrossedSheet$Sheet;I)V" } : Jvm.MethodName) prog_7_method_8_code (3 : Nat) (Option.none : Option Jvm.ClassFile.FieldType)) ∈ TW := TWm 557 (by decide +kernel) (by decide +kernel)
theorem mw_558 : (Jvm.Cond.methodLink "CrossedSheet$TextReader" (73 : Nat) ({ cls := "CrossedSheet$Sheet", name := "addMark", desc := "(IIIII)V" } : Jvm.MethodName)) ∈ TW := TWm 558 (by decide +kernel) (by decide +kernel)
theorem mw_559 : (Jvm.Cond.methodLink "CrossedSheet$TextReader" (49 : Nat) ({ cls := "CrossedSheet$TextReader", name := "takeOfLetter", desc := "(LCrossedSheet$Sheet;I)V" } : Jvm.MethodName)) ∈ TW := TWm 559 (by decide +kernel) (by decide +kernel)
theorem mw_561 : (Jvm.Cond.instanceMethod ({ cls := "CrossedSheet$TextReader", name := "takeOfLetter", desc := "(LCrossedSheet$Sheet;I)V" } : Jvm.MethodName)) ∈ TW := TWm 561 (by decide +kernel) (by decide +kernel)
theorem mw_562 : (Jvm.Cond.code ({ cls := "CrossedSheet$TextReader", name := "takeOfLetter", desc := "(LCrossedSheet$Sheet;I)V" } : Jvm.MethodName) prog_7_method_9_code (3 : Nat) (Option.none : Option Jvm.ClassFile.FieldType)) ∈ TW := TWm 562 (by decide +kernel) (by decide +kernel)
theorem mw_563 : (Jvm.Cond.methodLink "CrossedSheet$TextReader" (83 : Nat) ({ cls := "CrossedSheet$Sheet", name := "putLetter", desc := "(IIII)V" } : Jvm.MethodName)) ∈ TW := TWm 563 (by decide +kernel) (by decide +kernel)
theorem fl_X2_14 : zF RX2 14 2 2 (.object "CrossedSheet$Numbers") true := ⟨RX2, TX2, 9, tyX2, rfl, inTX2, by decide, mw_221, by decide +kernel, tyX2_ok, nmX2, rfl⟩
theorem fl_X2_20 : zF RX2 20 2 3 (.object "CrossedSheet$Numbers") true := ⟨RX2, TX2, 9, tyX2, rfl, inTX2, by decide, mw_223, by decide +kernel, tyX2_ok, nmX2, rfl⟩
theorem fl_X2_23 : zF RX2 23 2 4 (.object "CrossedSheet$Numbers") true := ⟨RX2, TX2, 9, tyX2, rfl, inTX2, by decide, mw_224, by decide +kernel, tyX2_ok, nmX2, rfl⟩
theorem fl_X2_26 : zF RX2 26 2 0 .int false := ⟨RX2, TX2, 9, tyX2, rfl, inTX2, by decide, mw_217, by decide +kernel, tyX2_ok, nmX2, rfl⟩
theorem fl_X2_30 : zF RX2 30 2 1 .int false := ⟨RX2, TX2, 9, tyX2, rfl, inTX2, by decide, mw_219, by decide +kernel, tyX2_ok, nmX2, rfl⟩
theorem fl_X2_33 : zF RX2 33 2 5 .int false := ⟨RX2, TX2, 9, tyX2, rfl, inTX2, by decide, mw_225, by decide +kernel, tyX2_ok, nmX2, rfl⟩
theorem fl_X2_39 : zF RX2 39 3 6 (.object "CrossedSheet$Numbers") true := ⟨RX3, TX3, 12, tyX3, rfl, inTX3, by decide, mw_135, by decide +kernel, tyX3_ok, nmX3, rfl⟩
theorem fl_X2_48 : zF RX2 48 3 1 .int false := ⟨RX3, TX3, 12, tyX3, rfl, inTX3, by decide, mw_120, by decide +kernel, tyX3_ok, nmX3, rfl⟩
theorem fl_X2_51 : zF RX2 51 3 0 .int false := ⟨RX3, TX3, 12, tyX3, rfl, inTX3, by decide, mw_116, by decide +kernel, tyX3_ok, nmX3, rfl⟩
theorem fl_X2_66 : zF RX2 66 3 8 (.object "CrossedSheet$Numbers") true := ⟨RX3, TX3, 12, tyX3, rfl, inTX3, by decide, mw_139, by decide +kernel, tyX3_ok, nmX3, rfl⟩
theorem fl_X2_81 : zF RX2 81 2 6 .int false := ⟨RX2, TX2, 9, tyX2, rfl, inTX2, by decide, mw_226, by decide +kernel, tyX2_ok, nmX2, rfl⟩
theorem fl_X2_84 : zF RX2 84 2 8 .int false := ⟨RX2, TX2, 9, tyX2, rfl, inTX2, by decide, mw_228, by decide +kernel, tyX2_ok, nmX2, rfl⟩
theorem fl_X2_87 : zF RX2 87 2 7 .int false := ⟨RX2, TX2, 9, tyX2, rfl, inTX2, by decide, mw_227, by decide +kernel, tyX2_ok, nmX2, rfl⟩
theorem fl_X5_16 : zF RX5 16 5 0 .int false := ⟨RX5, TX5, 7, tyX5, rfl, inTX5, by decide, mw_66, by decide +kernel, tyX5_ok, nmX5, rfl⟩
theorem fl_X5_32 : zF RX5 32 5 1 .int false := ⟨RX5, TX5, 7, tyX5, rfl, inTX5, by decide, mw_67, by decide +kernel, tyX5_ok, nmX5, rfl⟩
theorem fl_X5_52 : zF RX5 52 3 0 .int false := ⟨RX3, TX3, 12, tyX3, rfl, inTX3, by decide, mw_119, by decide +kernel, tyX3_ok, nmX3, rfl⟩
theorem fl_X5_55 : zF RX5 55 3 1 .int false := ⟨RX3, TX3, 12, tyX3, rfl, inTX3, by decide, mw_123, by decide +kernel, tyX3_ok, nmX3, rfl⟩
theorem fl_X5_58 : zF RX5 58 3 3 .int false := ⟨RX3, TX3, 12, tyX3, rfl, inTX3, by decide, mw_129, by decide +kernel, tyX3_ok, nmX3, rfl⟩
theorem fl_X5_61 : zF RX5 61 3 2 .int false := ⟨RX3, TX3, 12, tyX3, rfl, inTX3, by decide, mw_126, by decide +kernel, tyX3_ok, nmX3, rfl⟩
theorem fl_X5_64 : zF RX5 64 5 2 .int false := ⟨RX5, TX5, 7, tyX5, rfl, inTX5, by decide, mw_68, by decide +kernel, tyX5_ok, nmX5, rfl⟩
theorem fl_X5_67 : zF RX5 67 5 3 .int false := ⟨RX5, TX5, 7, tyX5, rfl, inTX5, by decide, mw_69, by decide +kernel, tyX5_ok, nmX5, rfl⟩
theorem fl_X5_70 : zF RX5 70 5 5 .int false := ⟨RX5, TX5, 7, tyX5, rfl, inTX5, by decide, mw_71, by decide +kernel, tyX5_ok, nmX5, rfl⟩
theorem fl_X5_77 : zF RX5 77 5 4 .int false := ⟨RX5, TX5, 7, tyX5, rfl, inTX5, by decide, mw_70, by decide +kernel, tyX5_ok, nmX5, rfl⟩
theorem fl_X5_80 : zF RX5 80 5 6 .int false := ⟨RX5, TX5, 7, tyX5, rfl, inTX5, by decide, mw_72, by decide +kernel, tyX5_ok, nmX5, rfl⟩
theorem yv_X2_goTo : yX2_goTo.cls = RX2 ∧ yX2_goTo.cls ≠ "java/lang/invoke/MethodHandle" ∧ yX2_goTo.cls ≠ "java/lang/invoke/VarHandle" ∧ (parseMethodDescriptor yX2_goTo.desc).map (fun d => d.parameters.length) = some 3 := by decide +kernel
theorem yv_X2_takeSign : yX2_takeSign.cls = RX2 ∧ yX2_takeSign.cls ≠ "java/lang/invoke/MethodHandle" ∧ yX2_takeSign.cls ≠ "java/lang/invoke/VarHandle" ∧ (parseMethodDescriptor yX2_takeSign.desc).map (fun d => d.parameters.length) = some 1 := by decide +kernel
theorem yv_X3_addMark : yX3_addMark.cls = RX3 ∧ yX3_addMark.cls ≠ "java/lang/invoke/MethodHandle" ∧ yX3_addMark.cls ≠ "java/lang/invoke/VarHandle" ∧ (parseMethodDescriptor yX3_addMark.desc).map (fun d => d.parameters.length) = some 5 := by decide +kernel
theorem yv_X3_hasRoomAnywhere : yX3_hasRoomAnywhere.cls = RX3 ∧ yX3_hasRoomAnywhere.cls ≠ "java/lang/invoke/MethodHandle" ∧ yX3_hasRoomAnywhere.cls ≠ "java/lang/invoke/VarHandle" ∧ (parseMethodDescriptor yX3_hasRoomAnywhere.desc).map (fun d => d.parameters.length) = some 0 := by decide +kernel
theorem yv_X3_makeNew : yX3_makeNew.cls = RX3 ∧ yX3_makeNew.cls ≠ "java/lang/invoke/MethodHandle" ∧ yX3_makeNew.cls ≠ "java/lang/invoke/VarHandle" ∧ (parseMethodDescriptor yX3_makeNew.desc).map (fun d => d.parameters.length) = some 0 := by decide +kernel
theorem yv_X3_ownerOfFirst : yX3_ownerOfFirst.cls = RX3 ∧ yX3_ownerOfFirst.cls ≠ "java/lang/invoke/MethodHandle" ∧ yX3_ownerOfFirst.cls ≠ "java/lang/invoke/VarHandle" ∧ (parseMethodDescriptor yX3_ownerOfFirst.desc).map (fun d => d.parameters.length) = some 2 := by decide +kernel
theorem ys_X5_digitOf : yX5_digitOf.cls ≠ "java/lang/invoke/MethodHandle" ∧ yX5_digitOf.cls ≠ "java/lang/invoke/VarHandle" ∧ (parseMethodDescriptor yX5_digitOf.desc).map (fun d => d.parameters.length) = some 1 := by decide +kernel
theorem yv_X5_takeOfLetter : yX5_takeOfLetter.cls = RX5 ∧ yX5_takeOfLetter.cls ≠ "java/lang/invoke/MethodHandle" ∧ yX5_takeOfLetter.cls ≠ "java/lang/invoke/VarHandle" ∧ (parseMethodDescriptor yX5_takeOfLetter.desc).map (fun d => d.parameters.length) = some 2 := by decide +kernel
theorem yv_X5_takeOfMark : yX5_takeOfMark.cls = RX5 ∧ yX5_takeOfMark.cls ≠ "java/lang/invoke/MethodHandle" ∧ yX5_takeOfMark.cls ≠ "java/lang/invoke/VarHandle" ∧ (parseMethodDescriptor yX5_takeOfMark.desc).map (fun d => d.parameters.length) = some 2 := by decide +kernel
theorem yv_X5_takeSetting : yX5_takeSetting.cls = RX5 ∧ yX5_takeSetting.cls ≠ "java/lang/invoke/MethodHandle" ∧ yX5_takeSetting.cls ≠ "java/lang/invoke/VarHandle" ∧ (parseMethodDescriptor yX5_takeSetting.desc).map (fun d => d.parameters.length) = some 2 := by decide +kernel
theorem cw_X2_36 : GoodIn TW (wsV RX2 36 RX1 yX1_fill (.code yX1_fill cX1_fill 3 none :: TW)) := zGV mw_429 mw_113 mw_114 mw_27 mw_115
theorem cw_X2_44 : GoodIn TW (wsV RX2 44 RX1 yX1_at (.code yX1_at cX1_at 2 (some .int) :: TW)) := zGV mw_430 mw_396 mw_397 mw_27 mw_398
theorem cw_X2_54 : GoodIn TW (wsV RX2 54 RX3 yX3_ownerOfFirst (.code yX3_ownerOfFirst cX3_ownerOfFirst 6 (some .int) :: TW)) := zGV mw_431 mw_432 mw_433 mw_29 mw_434
theorem cw_X2_58 : GoodIn TW (wsV RX2 58 RX3 yX3_hasMark (.code yX3_hasMark cX3_hasMark 4 (some .boolean) :: TW)) := zGV mw_450 mw_404 mw_405 mw_29 mw_406
theorem cw_X2_62 : GoodIn TW (wsV RX2 62 RX2 yX2_goTo (.code yX2_goTo cX2_goTo 7 none :: TW)) := zGV mw_451 mw_453 mw_5 mw_32 mw_454
theorem cw_X2_67 : GoodIn TW (.code yX6_placeOf cX6_placeOf 3 (some .int) :: TW) := zGI mw_409
theorem nw_X2_67 : (RX2, 67, yX6_placeOf, "CrossedSheet") ∈ NWl := by decide +kernel
theorem cw_X2_71 : GoodIn TW (wsV RX2 71 RX2 yX2_takeSign (.code yX2_takeSign cX2_takeSign 2 none :: TW)) := zGV mw_457 mw_459 mw_6 mw_32 mw_460
theorem cw_X2_74 : GoodIn TW (.code yX6_cellOf cX6_cellOf 2 (some .int) :: TW) := zGI mw_394
theorem nw_X2_74 : (RX2, 74, yX6_cellOf, "CrossedSheet") ∈ NWl := by decide +kernel
theorem cw_X2_77 : GoodIn TW (wsV RX2 77 RX1 yX1_put (.code yX1_put cX1_put 3 none :: TW)) := zGV mw_455 mw_109 mw_110 mw_27 mw_111
theorem cw_X3_140 : GoodIn TW (wsV RX3 140 RX3 yX3_ownerOfFirst (.code yX3_ownerOfFirst cX3_ownerOfFirst 6 (some .int) :: TW)) := zGV mw_466 mw_432 mw_433 mw_29 mw_434
theorem cw_X5_9 : GoodIn TW (wsV RX5 9 RX3 yX3_makeNew (.code yX3_makeNew cX3_makeNew 1 none :: TW)) := zGV mw_524 mw_97 mw_98 mw_29 mw_99
theorem cw_X5_20 : GoodIn TW (va_wsS RX5 20 yX5_digitOf (.code yX5_digitOf cX5_digitOf 1 (some .int) :: TW)) := zGS mw_530 mw_531 mw_28 mw_532
theorem cw_X5_24 : GoodIn TW (wsV RX5 24 RX3 yX3_hasRoomAnywhere (.code yX3_hasRoomAnywhere cX3_hasRoomAnywhere 2 (some .boolean) :: TW)) := zGV mw_533 mw_534 mw_535 mw_29 mw_536
theorem cw_X5_28 : GoodIn TW (wsV RX5 28 RX3 yX3_columnHasRoom (.code yX3_columnHasRoom cX3_columnHasRoom 3 (some .boolean) :: TW)) := zGV mw_541 mw_538 mw_539 mw_29 mw_540
theorem cw_X5_35 : GoodIn TW (wsV RX5 35 RX3 yX3_hasRoom (.code yX3_hasRoom cX3_hasRoom 3 (some .boolean) :: TW)) := zGV mw_542 mw_385 mw_386 mw_29 mw_387
theorem cw_X5_39 : GoodIn TW (.code yX6_isLetter cX6_isLetter 1 (some .boolean) :: TW) := zGI mw_545
theorem nw_X5_39 : (RX5, 39, yX6_isLetter, "CrossedSheet") ∈ NWl := by decide +kernel
theorem cw_X5_42 : GoodIn TW (wsV RX5 42 RX5 yX5_takeSetting (.code yX5_takeSetting cX5_takeSetting 3 none :: TW)) := zGV mw_550 mw_552 mw_8 mw_28 mw_553
theorem cw_X5_46 : GoodIn TW (wsV RX5 46 RX5 yX5_takeOfMark (.code yX5_takeOfMark cX5_takeOfMark 3 none :: TW)) := zGV mw_554 mw_556 mw_9 mw_28 mw_557
theorem cw_X5_49 : GoodIn TW (wsV RX5 49 RX5 yX5_takeOfLetter (.code yX5_takeOfLetter cX5_takeOfLetter 3 none :: TW)) := zGV mw_559 mw_561 mw_10 mw_28 mw_562
theorem cw_X5_73 : GoodIn TW (wsV RX5 73 RX3 yX3_addMark (.code yX3_addMark cX3_addMark 7 none :: TW)) := zGV mw_558 mw_421 mw_422 mw_29 mw_423
theorem cw_X5_83 : GoodIn TW (wsV RX5 83 RX3 yX3_putLetter (.code yX3_putLetter cX3_putLetter 5 none :: TW)) := zGV mw_563 mw_105 mw_106 mw_29 mw_107
theorem dX3_ownerOf_0 : decode cX3_ownerOf 0 = .ok (.aload_n 0, 1) := by decide +kernel
theorem dX3_ownerOf_1 : decode cX3_ownerOf 1 = .ok (.iload_n 1, 1) := by decide +kernel
theorem dX3_ownerOf_2 : decode cX3_ownerOf 2 = .ok (.iload_n 2, 1) := by decide +kernel
theorem dX3_ownerOf_3 : decode cX3_ownerOf 3 = .ok (.invokevirtual 140, 3) := by decide +kernel
theorem dX3_ownerOf_6 : decode cX3_ownerOf 6 = .ok (.istore 4, 2) := by decide +kernel
theorem dX3_ownerOf_8 : decode cX3_ownerOf 8 = .ok (.iload_n 3, 1) := by decide +kernel
theorem dX3_ownerOf_9 : decode cX3_ownerOf 9 = .ok (.ifCond .eq 10, 3) := by decide +kernel
theorem dX3_ownerOf_12 : decode cX3_ownerOf 12 = .ok (.iload 4, 2) := by decide +kernel
theorem dX3_ownerOf_14 : decode cX3_ownerOf 14 = .ok (.bipush (-9), 2) := by decide +kernel
theorem dX3_ownerOf_16 : decode cX3_ownerOf 16 = .ok (.if_icmp .ne 8, 3) := by decide +kernel
theorem dX3_ownerOf_19 : decode cX3_ownerOf 19 = .ok (.iload 4, 2) := by decide +kernel
theorem dX3_ownerOf_21 : decode cX3_ownerOf 21 = .ok (.goto 7, 3) := by decide +kernel
theorem dX3_ownerOf_24 : decode cX3_ownerOf 24 = .ok (.iconst 1, 1) := by decide +kernel
theorem dX3_ownerOf_25 : decode cX3_ownerOf 25 = .ok (.iload 4, 2) := by decide +kernel
theorem dX3_ownerOf_27 : decode cX3_ownerOf 27 = .ok (.isub, 1) := by decide +kernel
theorem dX3_ownerOf_28 : decode cX3_ownerOf 28 = .ok (.ireturn, 1) := by decide +kernel
def FX3_ownerOf (T : zT) (a0 : Nat) (p0 : Int32) (p1 : Int32) (p2 : Int32) (h : zH) : Option Int32 := (zo h a0 3).bind fun _ => zJ (fun (x1 : Int32) => some x1) (fun J2 => zJ (fun (x3 : Int32) => J2 x3) (fun J4 => (FX3_ownerOfFirst T a0 p0 p1 h).bind fun x6 => if p2 = 0 then (J4 x6) else (if x6 = (-9 : Int32) then (J4 x6) else (J2 (1 - x6)))))
set_option maxHeartbeats 4000000 in
set_option maxRecDepth 100000 in
theorem BX3_ownerOf {X : zX} (C : zC X cX3_ownerOf 5 RX3 "ownerOf" (some .int) 4 95) {al : Bool} {hi : Nat} {h : zH} {a0 : Nat} {p0 : Int32} {p1 : Int32} {p2 : Int32} {r9 : Int32} (hf : FX3_ownerOf (xT X) a0 p0 p1 p2 h = some r9) : zW X 5 (zZ X al (some (.int r9), hi, h)) 0 0 al hi h 0 [(0, .ref a0), (1, .int p0), (2, .int p1), (3, .int p2)] [] := by
  unfold FX3_ownerOf at hf
  obtain ⟨_, _, hf⟩ := zbind hf
  refine z_join (P := fun J => ∀ (x1 : Int32), J x1 = some r9 → zW X 5 (zZ X al (some (.int r9), hi, h)) 0 0 al hi h 28 [] [.int x1]) hf ?_ ?_
  · intro x1 hf
    exact z_ireturn C dX3_ownerOf_28 (by cases hf; rfl)
  · intro J2 kJ2 hf
    refine z_join (P := fun J => ∀ (x3 : Int32), J x3 = some r9 → zW X 5 (zZ X al (some (.int r9), hi, h)) 0 0 al hi h 19 [(4, .int x3)] []) hf ?_ ?_
    · intro x3 hf
      refine z_iload C dX3_ownerOf_19 0 rfl ?_
      refine z_goto (tgt := 28) C dX3_ownerOf_21 (by decide) ?_
      refine z_sub [] rfl ?_
      exact kJ2 _ hf
    · intro J4 kJ4 hf
      refine z_aload_n C dX3_ownerOf_0 0 rfl rfl ?_
      refine z_iload_n C dX3_ownerOf_1 1 rfl rfl ?_
      refine z_iload_n C dX3_ownerOf_2 2 rfl rfl ?_
      obtain ⟨x6, g5, hf⟩ := zbind hf
      refine z_callV (kc' := 0) (ks' := 0) C (MX3_ownerOfFirst (xl X) (xD X) (xT X) (xlo X) al hi g5) (OX3_ownerOfFirst g5) rfl cw_X3_140 yv_X3_ownerOfFirst dX3_ownerOf_3 rfl (by decide) ⟨rfl, rfl⟩ (Nat.le_of_ble_eq_true rfl) (st := []) rfl ?_
      refine z_istore C dX3_ownerOf_6 (by decide) (lv' := [(4, .int x6), (0, .ref a0), (1, .int p0), (2, .int p1), (3, .int p2)]) rfl ?_
      refine z_iload_n C dX3_ownerOf_8 4 rfl rfl ?_
      refine z_if_eq (tgt := 19) C dX3_ownerOf_9 (by decide) hf (fun hf => ?_) (fun hf => ?_)
      · refine z_sub [0] rfl ?_
        exact kJ4 _ hf
      · refine z_iload C dX3_ownerOf_12 0 rfl ?_
        refine z_bipush C (v := (-9 : Int32)) dX3_ownerOf_14 (by decide) ?_
        refine z_icmp_ne (tgt := 24) C dX3_ownerOf_16 (by decide) hf (fun hf => ?_) (fun hf => ?_)
        · refine z_iconst C (v := 1) dX3_ownerOf_24 (by decide) ?_
          refine z_iload C dX3_ownerOf_25 0 rfl ?_
          refine z_isub C dX3_ownerOf_27 ?_
          refine z_sub [] rfl ?_
          exact kJ2 _ hf
        · refine z_sub [0] rfl ?_
          exact kJ4 _ hf
theorem MX3_ownerOf (l : Launch) (D : va_G) (T : zT) (lo : Nat) (al : Bool) (hi : Nat) {h : zH} {a0 : Nat} {p0 : Int32} {p1 : Int32} {p2 : Int32} {v9 : Int32} (hf : FX3_ownerOf T a0 p0 p1 p2 h = some v9) : zM l yX3_ownerOf (.code yX3_ownerOf cX3_ownerOf 5 (some .int) :: TW) ({ frames := 4, cells := 0, slots := 0, locals := 95 } : Room) D T lo al [.ref a0, .int p0, .int p1, .int p2] hi h (some (.int v9), hi, h) :=
  z_enter (own := RX3) (nm := "ownerOf") (lv := [(0, .ref a0), (1, .int p0), (2, .int p1), (3, .int p2)]) (by decide +kernel) rfl rfl (Nat.le_of_ble_eq_true rfl) rfl (fun _ _ _ _ _ _ _ _ C => BX3_ownerOf C hf)
theorem OX3_ownerOf {T : zT} {h : zH} {a0 : Nat} {p0 : Int32} {p1 : Int32} {p2 : Int32} {r9 : Int32} (hf : FX3_ownerOf T a0 p0 p1 p2 h = some r9) : ∃ fs, h a0 = some (.inr (3, fs)) := by
  obtain ⟨_, h1, _⟩ := zbind hf
  exact zo_obj h1
theorem dX3_ruleOf_0 : decode cX3_ruleOf 0 = .ok (.aload_n 0, 1) := by decide +kernel
theorem dX3_ruleOf_1 : decode cX3_ruleOf 1 = .ok (.iload_n 1, 1) := by decide +kernel
theorem dX3_ruleOf_2 : decode cX3_ruleOf 2 = .ok (.iload_n 2, 1) := by decide +kernel
theorem dX3_ruleOf_3 : decode cX3_ruleOf 3 = .ok (.iload_n 3, 1) := by decide +kernel
theorem dX3_ruleOf_4 : decode cX3_ruleOf 4 = .ok (.invokevirtual 112, 3) := by decide +kernel
theorem dX3_ruleOf_7 : decode cX3_ruleOf 7 = .ok (.bipush (-9), 2) := by decide +kernel
theorem dX3_ruleOf_9 : decode cX3_ruleOf 9 = .ok (.if_icmp .eq 5, 3) := by decide +kernel
theorem dX3_ruleOf_12 : decode cX3_ruleOf 12 = .ok (.iconst 1, 1) := by decide +kernel
theorem dX3_ruleOf_13 : decode cX3_ruleOf 13 = .ok (.ireturn, 1) := by decide +kernel
theorem dX3_ruleOf_14 : decode cX3_ruleOf 14 = .ok (.aload_n 0, 1) := by decide +kernel
theorem dX3_ruleOf_15 : decode cX3_ruleOf 15 = .ok (.iload_n 1, 1) := by decide +kernel
theorem dX3_ruleOf_16 : decode cX3_ruleOf 16 = .ok (.iload_n 2, 1) := by decide +kernel
theorem dX3_ruleOf_17 : decode cX3_ruleOf 17 = .ok (.iconst 1, 1) := by decide +kernel
theorem dX3_ruleOf_18 : decode cX3_ruleOf 18 = .ok (.iload_n 3, 1) := by decide +kernel
theorem dX3_ruleOf_19 : decode cX3_ruleOf 19 = .ok (.isub, 1) := by decide +kernel
theorem dX3_ruleOf_20 : decode cX3_ruleOf 20 = .ok (.invokevirtual 112, 3) := by decide +kernel
theorem dX3_ruleOf_23 : decode cX3_ruleOf 23 = .ok (.bipush (-9), 2) := by decide +kernel
theorem dX3_ruleOf_25 : decode cX3_ruleOf 25 = .ok (.if_icmp .eq 5, 3) := by decide +kernel
theorem dX3_ruleOf_28 : decode cX3_ruleOf 28 = .ok (.iconst 2, 1) := by decide +kernel
theorem dX3_ruleOf_29 : decode cX3_ruleOf 29 = .ok (.ireturn, 1) := by decide +kernel
theorem dX3_ruleOf_30 : decode cX3_ruleOf 30 = .ok (.aload_n 0, 1) := by decide +kernel
theorem dX3_ruleOf_31 : decode cX3_ruleOf 31 = .ok (.iload_n 1, 1) := by decide +kernel
theorem dX3_ruleOf_32 : decode cX3_ruleOf 32 = .ok (.iload_n 2, 1) := by decide +kernel
theorem dX3_ruleOf_33 : decode cX3_ruleOf 33 = .ok (.invokevirtual 140, 3) := by decide +kernel
theorem dX3_ruleOf_36 : decode cX3_ruleOf 36 = .ok (.bipush (-9), 2) := by decide +kernel
theorem dX3_ruleOf_38 : decode cX3_ruleOf 38 = .ok (.if_icmp .ne 5, 3) := by decide +kernel
theorem dX3_ruleOf_41 : decode cX3_ruleOf 41 = .ok (.iconst 5, 1) := by decide +kernel
theorem dX3_ruleOf_42 : decode cX3_ruleOf 42 = .ok (.ireturn, 1) := by decide +kernel
theorem dX3_ruleOf_43 : decode cX3_ruleOf 43 = .ok (.aload_n 0, 1) := by decide +kernel
theorem dX3_ruleOf_44 : decode cX3_ruleOf 44 = .ok (.iload_n 1, 1) := by decide +kernel
theorem dX3_ruleOf_45 : decode cX3_ruleOf 45 = .ok (.iload_n 2, 1) := by decide +kernel
theorem dX3_ruleOf_46 : decode cX3_ruleOf 46 = .ok (.invokevirtual 94, 3) := by decide +kernel
theorem dX3_ruleOf_49 : decode cX3_ruleOf 49 = .ok (.iconst 1, 1) := by decide +kernel
theorem dX3_ruleOf_50 : decode cX3_ruleOf 50 = .ok (.if_icmp .ne 7, 3) := by decide +kernel
theorem dX3_ruleOf_53 : decode cX3_ruleOf 53 = .ok (.iconst 3, 1) := by decide +kernel
theorem dX3_ruleOf_54 : decode cX3_ruleOf 54 = .ok (.goto 4, 3) := by decide +kernel
theorem dX3_ruleOf_57 : decode cX3_ruleOf 57 = .ok (.iconst 4, 1) := by decide +kernel
theorem dX3_ruleOf_58 : decode cX3_ruleOf 58 = .ok (.ireturn, 1) := by decide +kernel
def FX3_ruleOf (T : zT) (a0 : Nat) (p0 : Int32) (p1 : Int32) (p2 : Int32) (h : zH) : Option Int32 := (zo h a0 3).bind fun _ => (FX3_decisionOf T a0 p0 p1 p2 h).bind fun x2 => if x2 = (-9 : Int32) then ((FX3_decisionOf T a0 p0 p1 (1 - p2) h).bind fun x4 => if x4 = (-9 : Int32) then ((FX3_ownerOfFirst T a0 p0 p1 h).bind fun x6 => if x6 = (-9 : Int32) then (some 5) else (zJ (fun (x7 : Int32) => some x7) (fun J8 => (FX3_marksIn T a0 p0 p1 h).bind fun x10 => if x10 = 1 then (J8 3) else (J8 4)))) else (some 2)) else (some 1)
set_option maxHeartbeats 4000000 in
set_option maxRecDepth 100000 in
theorem BX3_ruleOf {X : zX} (C : zC X cX3_ruleOf 4 RX3 "ruleOf" (some .int) 4 95) {al : Bool} {hi : Nat} {h : zH} {a0 : Nat} {p0 : Int32} {p1 : Int32} {p2 : Int32} {r9 : Int32} (hf : FX3_ruleOf (xT X) a0 p0 p1 p2 h = some r9) : zW X 4 (zZ X al (some (.int r9), hi, h)) 0 0 al hi h 0 [(0, .ref a0), (1, .int p0), (2, .int p1), (3, .int p2)] [] := by
  unfold FX3_ruleOf at hf
  obtain ⟨_, _, hf⟩ := zbind hf
  refine z_aload_n C dX3_ruleOf_0 0 rfl rfl ?_
  refine z_iload_n C dX3_ruleOf_1 1 rfl rfl ?_
  refine z_iload_n C dX3_ruleOf_2 2 rfl rfl ?_
  refine z_iload_n C dX3_ruleOf_3 3 rfl rfl ?_
  obtain ⟨x2, g1, hf⟩ := zbind hf
  refine z_callV (kc' := 0) (ks' := 0) C (MX3_decisionOf (xl X) (xD X) (xT X) (xlo X) al hi g1) (OX3_decisionOf g1) rfl cw_X3_112 yv_X3_decisionOf dX3_ruleOf_4 rfl (by decide) ⟨rfl, rfl⟩ (Nat.le_of_ble_eq_true rfl) (st := []) rfl ?_
  refine z_bipush C (v := (-9 : Int32)) dX3_ruleOf_7 (by decide) ?_
  refine z_icmp_eq (tgt := 14) C dX3_ruleOf_9 (by decide) hf (fun hf => ?_) (fun hf => ?_)
  · refine z_aload_n C dX3_ruleOf_14 0 rfl rfl ?_
    refine z_iload_n C dX3_ruleOf_15 1 rfl rfl ?_
    refine z_iload_n C dX3_ruleOf_16 2 rfl rfl ?_
    refine z_iconst C (v := 1) dX3_ruleOf_17 (by decide) ?_
    refine z_iload_n C dX3_ruleOf_18 3 rfl rfl ?_
    refine z_isub C dX3_ruleOf_19 ?_
    obtain ⟨x4, g3, hf⟩ := zbind hf
    refine z_callV (kc' := 0) (ks' := 0) C (MX3_decisionOf (xl X) (xD X) (xT X) (xlo X) al hi g3) (OX3_decisionOf g3) rfl cw_X3_112 yv_X3_decisionOf dX3_ruleOf_20 rfl (by decide) ⟨rfl, rfl⟩ (Nat.le_of_ble_eq_true rfl) (st := []) rfl ?_
    refine z_bipush C (v := (-9 : Int32)) dX3_ruleOf_23 (by decide) ?_
    refine z_icmp_eq (tgt := 30) C dX3_ruleOf_25 (by decide) hf (fun hf => ?_) (fun hf => ?_)
    · refine z_aload_n C dX3_ruleOf_30 0 rfl rfl ?_
      refine z_iload_n C dX3_ruleOf_31 1 rfl rfl ?_
      refine z_iload_n C dX3_ruleOf_32 2 rfl rfl ?_
      obtain ⟨x6, g5, hf⟩ := zbind hf
      refine z_callV (kc' := 0) (ks' := 0) C (MX3_ownerOfFirst (xl X) (xD X) (xT X) (xlo X) al hi g5) (OX3_ownerOfFirst g5) rfl cw_X3_140 yv_X3_ownerOfFirst dX3_ruleOf_33 rfl (by decide) ⟨rfl, rfl⟩ (Nat.le_of_ble_eq_true rfl) (st := []) rfl ?_
      refine z_bipush C (v := (-9 : Int32)) dX3_ruleOf_36 (by decide) ?_
      refine z_icmp_ne (tgt := 43) C dX3_ruleOf_38 (by decide) hf (fun hf => ?_) (fun hf => ?_)
      · refine z_join (P := fun J => ∀ (x7 : Int32), J x7 = some r9 → zW X 4 (zZ X al (some (.int r9), hi, h)) 0 0 al hi h 58 [] [.int x7]) hf ?_ ?_
        · intro x7 hf
          exact z_ireturn C dX3_ruleOf_58 (by cases hf; rfl)
        · intro J8 kJ8 hf
          refine z_aload_n C dX3_ruleOf_43 0 rfl rfl ?_
          refine z_iload_n C dX3_ruleOf_44 1 rfl rfl ?_
          refine z_iload_n C dX3_ruleOf_45 2 rfl rfl ?_
          obtain ⟨x10, g9, hf⟩ := zbind hf
          refine z_callV (kc' := 0) (ks' := 0) C (MX3_marksIn (xl X) (xD X) (xT X) (xlo X) al hi g9) (OX3_marksIn g9) rfl cw_X3_94 yv_X3_marksIn dX3_ruleOf_46 rfl (by decide) ⟨rfl, rfl⟩ (Nat.le_of_ble_eq_true rfl) (st := []) rfl ?_
          refine z_iconst C (v := 1) dX3_ruleOf_49 (by decide) ?_
          refine z_icmp_ne (tgt := 57) C dX3_ruleOf_50 (by decide) hf (fun hf => ?_) (fun hf => ?_)
          · refine z_iconst C (v := 4) dX3_ruleOf_57 (by decide) ?_
            refine z_sub [] rfl ?_
            exact kJ8 _ hf
          · refine z_iconst C (v := 3) dX3_ruleOf_53 (by decide) ?_
            refine z_goto (tgt := 58) C dX3_ruleOf_54 (by decide) ?_
            refine z_sub [] rfl ?_
            exact kJ8 _ hf
      · refine z_iconst C (v := 5) dX3_ruleOf_41 (by decide) ?_
        exact z_ireturn C dX3_ruleOf_42 (by cases hf; rfl)
    · refine z_iconst C (v := 2) dX3_ruleOf_28 (by decide) ?_
      exact z_ireturn C dX3_ruleOf_29 (by cases hf; rfl)
  · refine z_iconst C (v := 1) dX3_ruleOf_12 (by decide) ?_
    exact z_ireturn C dX3_ruleOf_13 (by cases hf; rfl)
theorem MX3_ruleOf (l : Launch) (D : va_G) (T : zT) (lo : Nat) (al : Bool) (hi : Nat) {h : zH} {a0 : Nat} {p0 : Int32} {p1 : Int32} {p2 : Int32} {v9 : Int32} (hf : FX3_ruleOf T a0 p0 p1 p2 h = some v9) : zM l yX3_ruleOf (.code yX3_ruleOf cX3_ruleOf 4 (some .int) :: TW) ({ frames := 4, cells := 0, slots := 0, locals := 95 } : Room) D T lo al [.ref a0, .int p0, .int p1, .int p2] hi h (some (.int v9), hi, h) :=
  z_enter (own := RX3) (nm := "ruleOf") (lv := [(0, .ref a0), (1, .int p0), (2, .int p1), (3, .int p2)]) (by decide +kernel) rfl rfl (Nat.le_of_ble_eq_true rfl) rfl (fun _ _ _ _ _ _ _ _ C => BX3_ruleOf C hf)
theorem OX3_ruleOf {T : zT} {h : zH} {a0 : Nat} {p0 : Int32} {p1 : Int32} {p2 : Int32} {r9 : Int32} (hf : FX3_ruleOf T a0 p0 p1 p2 h = some r9) : ∃ fs, h a0 = some (.inr (3, fs)) := by
  obtain ⟨_, h1, _⟩ := zbind hf
  exact zo_obj h1
theorem dX3_countMarks_0 : decode cX3_countMarks 0 = .ok (.iconst 0, 1) := by decide +kernel
theorem dX3_countMarks_1 : decode cX3_countMarks 1 = .ok (.istore_n 1, 1) := by decide +kernel
theorem dX3_countMarks_2 : decode cX3_countMarks 2 = .ok (.iconst 0, 1) := by decide +kernel
theorem dX3_countMarks_3 : decode cX3_countMarks 3 = .ok (.istore_n 2, 1) := by decide +kernel
theorem dX3_countMarks_4 : decode cX3_countMarks 4 = .ok (.iload_n 2, 1) := by decide +kernel
theorem dX3_countMarks_5 : decode cX3_countMarks 5 = .ok (.aload_n 0, 1) := by decide +kernel
theorem dX3_countMarks_6 : decode cX3_countMarks 6 = .ok (.getfield 62, 3) := by decide +kernel
theorem dX3_countMarks_9 : decode cX3_countMarks 9 = .ok (.if_icmp .ge 34, 3) := by decide +kernel
theorem dX3_countMarks_12 : decode cX3_countMarks 12 = .ok (.iconst 0, 1) := by decide +kernel
theorem dX3_countMarks_13 : decode cX3_countMarks 13 = .ok (.istore_n 3, 1) := by decide +kernel
theorem dX3_countMarks_14 : decode cX3_countMarks 14 = .ok (.iload_n 3, 1) := by decide +kernel
theorem dX3_countMarks_15 : decode cX3_countMarks 15 = .ok (.aload_n 0, 1) := by decide +kernel
theorem dX3_countMarks_16 : decode cX3_countMarks 16 = .ok (.getfield 65, 3) := by decide +kernel
theorem dX3_countMarks_19 : decode cX3_countMarks 19 = .ok (.if_icmp .ge 18, 3) := by decide +kernel
theorem dX3_countMarks_22 : decode cX3_countMarks 22 = .ok (.iload_n 1, 1) := by decide +kernel
theorem dX3_countMarks_23 : decode cX3_countMarks 23 = .ok (.aload_n 0, 1) := by decide +kernel
theorem dX3_countMarks_24 : decode cX3_countMarks 24 = .ok (.iload_n 2, 1) := by decide +kernel
theorem dX3_countMarks_25 : decode cX3_countMarks 25 = .ok (.iload_n 3, 1) := by decide +kernel
theorem dX3_countMarks_26 : decode cX3_countMarks 26 = .ok (.invokevirtual 94, 3) := by decide +kernel
theorem dX3_countMarks_29 : decode cX3_countMarks 29 = .ok (.iadd, 1) := by decide +kernel
theorem dX3_countMarks_30 : decode cX3_countMarks 30 = .ok (.istore_n 1, 1) := by decide +kernel
theorem dX3_countMarks_31 : decode cX3_countMarks 31 = .ok (.iinc 3 1, 3) := by decide +kernel
theorem dX3_countMarks_34 : decode cX3_countMarks 34 = .ok (.goto (-20), 3) := by decide +kernel
theorem dX3_countMarks_37 : decode cX3_countMarks 37 = .ok (.iinc 2 1, 3) := by decide +kernel
theorem dX3_countMarks_40 : decode cX3_countMarks 40 = .ok (.goto (-36), 3) := by decide +kernel
theorem dX3_countMarks_43 : decode cX3_countMarks 43 = .ok (.iload_n 1, 1) := by decide +kernel
theorem dX3_countMarks_44 : decode cX3_countMarks 44 = .ok (.ireturn, 1) := by decide +kernel
def LX3_countMarks_14 {ρ : Type} (T : zT) (h10 : zH) (x6 : Nat) (x7 : Int32) (K0 : Int32 → Option ρ) : Nat → Int32 → Int32 → Option ρ
  | 0, _, _ => none
  | k + 1, x8, x9 => (zgi h10 x6 3 1).bind fun x11 => if x11 ≤ x9 then (K0 x8) else ((FX3_marksIn T x6 x7 x9 h10).bind fun x13 => LX3_countMarks_14 T h10 x6 x7 K0 k (x8 + x13) (x9 + 1))
set_option maxHeartbeats 4000000 in
set_option maxRecDepth 100000 in
theorem LX3_countMarks_14_ok {X : zX} (C : zC X cX3_countMarks 4 RX3 "countMarks" (some .int) 2 44) {Z : State → Prop} {al : Bool} {hi : Nat} {ρ : Type} {r9 : ρ} {h10 : zH} {x6 : Nat} {x7 : Int32} {K0 : Int32 → Option ρ} (hK0 : ∀ (y1 : Int32), K0 y1 = some r9 → zW X 4 Z 0 0 al hi h10 37 [(0, .ref x6), (1, .int y1), (2, .int x7)] []) : ∀ (k : Nat) (x8 : Int32) (x9 : Int32), LX3_countMarks_14 (xT X) h10 x6 x7 K0 k x8 x9 = some r9 → zW X 4 Z 0 0 al hi h10 14 [(0, .ref x6), (1, .int x8), (2, .int x7), (3, .int x9)] [] := by
  intro k
  induction k with
  | zero =>
    intro x8 x9 hf
    have hf : none = some r9 := hf
    cases hf
  | succ k ih =>
    intro x8 x9 hf
    rw [LX3_countMarks_14.eq_2] at hf
    refine z_iload_n C dX3_countMarks_14 3 rfl rfl ?_
    refine z_aload_n C dX3_countMarks_15 0 rfl rfl ?_
    refine z_getI C fl_X3_65 dX3_countMarks_16 hf (fun x11 hf => ?_)
    refine z_icmp_ge (tgt := 37) C dX3_countMarks_19 (by decide) hf (fun hf => ?_) (fun hf => ?_)
    · refine z_sub [0, 1, 2] rfl ?_
      exact hK0 _ hf
    · refine z_iload_n C dX3_countMarks_22 1 rfl rfl ?_
      refine z_aload_n C dX3_countMarks_23 0 rfl rfl ?_
      refine z_iload_n C dX3_countMarks_24 2 rfl rfl ?_
      refine z_iload_n C dX3_countMarks_25 3 rfl rfl ?_
      obtain ⟨x13, g12, hf⟩ := zbind hf
      refine z_callV (kc' := 0) (ks' := 0) C (MX3_marksIn (xl X) (xD X) (xT X) (xlo X) al hi g12) (OX3_marksIn g12) rfl cw_X3_94 yv_X3_marksIn dX3_countMarks_26 rfl (by decide) ⟨rfl, rfl⟩ (Nat.le_of_ble_eq_true rfl) (st := [.int x8]) rfl ?_
      refine z_iadd C dX3_countMarks_29 ?_
      refine z_istore_n C dX3_countMarks_30 rfl (by decide) (lv' := [(1, .int (x8 + x13)), (0, .ref x6), (2, .int x7), (3, .int x9)]) rfl ?_
      refine z_iinc C dX3_countMarks_31 (k := 3) (d := 1) rfl (by decide) (by decide) (lv' := [(3, .int (x9 + 1)), (1, .int (x8 + x13)), (0, .ref x6), (2, .int x7)]) rfl ?_
      refine z_goto (tgt := 14) C dX3_countMarks_34 (by decide) ?_
      refine z_sub [2, 1, 3, 0] rfl ?_
      exact ih _ _ hf
def LX3_countMarks_4 {ρ : Type} (T : zT) (h4 : zH) (x1 : Nat) (K0 : Int32 → Option ρ) : Nat → Int32 → Int32 → Option ρ
  | 0, _, _ => none
  | k + 1, x2, x3 => (zgi h4 x1 3 0).bind fun x5 => if x5 ≤ x3 then (K0 x2) else (LX3_countMarks_14 T h4 x1 x3 (fun (x14 : Int32) => LX3_countMarks_4 T h4 x1 K0 k x14 (x3 + 1)) FUEL x2 0)
set_option maxHeartbeats 4000000 in
set_option maxRecDepth 100000 in
theorem LX3_countMarks_4_ok {X : zX} (C : zC X cX3_countMarks 4 RX3 "countMarks" (some .int) 2 44) {Z : State → Prop} {al : Bool} {hi : Nat} {ρ : Type} {r9 : ρ} {h4 : zH} {x1 : Nat} {K0 : Int32 → Option ρ} (hK0 : ∀ (y1 : Int32), K0 y1 = some r9 → zW X 4 Z 0 0 al hi h4 43 [(1, .int y1)] []) : ∀ (k : Nat) (x2 : Int32) (x3 : Int32), LX3_countMarks_4 (xT X) h4 x1 K0 k x2 x3 = some r9 → zW X 4 Z 0 0 al hi h4 4 [(0, .ref x1), (1, .int x2), (2, .int x3)] [] := by
  intro k
  induction k with
  | zero =>
    intro x2 x3 hf
    have hf : none = some r9 := hf
    cases hf
  | succ k ih =>
    intro x2 x3 hf
    rw [LX3_countMarks_4.eq_2] at hf
    refine z_iload_n C dX3_countMarks_4 2 rfl rfl ?_
    refine z_aload_n C dX3_countMarks_5 0 rfl rfl ?_
    refine z_getI C fl_X3_62 dX3_countMarks_6 hf (fun x5 hf => ?_)
    refine z_icmp_ge (tgt := 43) C dX3_countMarks_9 (by decide) hf (fun hf => ?_) (fun hf => ?_)
    · refine z_sub [1] rfl ?_
      exact hK0 _ hf
    · refine z_iconst C (v := 0) dX3_countMarks_12 (by decide) ?_
      refine z_istore_n C dX3_countMarks_13 rfl (by decide) (lv' := [(3, .int 0), (0, .ref x1), (1, .int x2), (2, .int x3)]) rfl ?_
      refine z_sub [1, 2, 3, 0] rfl ?_
      refine LX3_countMarks_14_ok C ?_ FUEL _ _ hf
      · intro x14 hf
        refine z_iinc C dX3_countMarks_37 (k := 2) (d := 1) rfl (by decide) (by decide) (lv' := [(2, .int (x3 + 1)), (0, .ref x1), (1, .int x14)]) rfl ?_
        refine z_goto (tgt := 4) C dX3_countMarks_40 (by decide) ?_
        refine z_sub [1, 2, 0] rfl ?_
        exact ih _ _ hf
def FX3_countMarks (T : zT) (a0 : Nat) (h : zH) : Option Int32 := (zo h a0 3).bind fun _ => LX3_countMarks_4 T h a0 (fun (x15 : Int32) => some x15) FUEL 0 0
set_option maxHeartbeats 4000000 in
set_option maxRecDepth 100000 in
theorem BX3_countMarks {X : zX} (C : zC X cX3_countMarks 4 RX3 "countMarks" (some .int) 2 44) {al : Bool} {hi : Nat} {h : zH} {a0 : Nat} {r9 : Int32} (hf : FX3_countMarks (xT X) a0 h = some r9) : zW X 4 (zZ X al (some (.int r9), hi, h)) 0 0 al hi h 0 [(0, .ref a0)] [] := by
  unfold FX3_countMarks at hf
  obtain ⟨_, _, hf⟩ := zbind hf
  refine z_iconst C (v := 0) dX3_countMarks_0 (by decide) ?_
  refine z_istore_n C dX3_countMarks_1 rfl (by decide) (lv' := [(1, .int 0), (0, .ref a0)]) rfl ?_
  refine z_iconst C (v := 0) dX3_countMarks_2 (by decide) ?_
  refine z_istore_n C dX3_countMarks_3 rfl (by decide) (lv' := [(2, .int 0), (1, .int 0), (0, .ref a0)]) rfl ?_
  refine z_sub [2, 1, 0] rfl ?_
  refine LX3_countMarks_4_ok C ?_ FUEL _ _ hf
  · intro x15 hf
    refine z_iload_n C dX3_countMarks_43 0 rfl rfl ?_
    exact z_ireturn C dX3_countMarks_44 (by cases hf; rfl)
theorem MX3_countMarks (l : Launch) (D : va_G) (T : zT) (lo : Nat) (al : Bool) (hi : Nat) {h : zH} {a0 : Nat} {v9 : Int32} (hf : FX3_countMarks T a0 h = some v9) : zM l yX3_countMarks (.code yX3_countMarks cX3_countMarks 4 (some .int) :: TW) ({ frames := 2, cells := 0, slots := 0, locals := 44 } : Room) D T lo al [.ref a0] hi h (some (.int v9), hi, h) :=
  z_enter (own := RX3) (nm := "countMarks") (lv := [(0, .ref a0)]) (by decide +kernel) rfl rfl (Nat.le_of_ble_eq_true rfl) rfl (fun _ _ _ _ _ _ _ _ C => BX3_countMarks C hf)
theorem OX3_countMarks {T : zT} {h : zH} {a0 : Nat} {r9 : Int32} (hf : FX3_countMarks T a0 h = some r9) : ∃ fs, h a0 = some (.inr (3, fs)) := by
  obtain ⟨_, h1, _⟩ := zbind hf
  exact zo_obj h1
theorem dX3_countDoubtful_0 : decode cX3_countDoubtful 0 = .ok (.iconst 0, 1) := by decide +kernel
theorem dX3_countDoubtful_1 : decode cX3_countDoubtful 1 = .ok (.istore_n 1, 1) := by decide +kernel
theorem dX3_countDoubtful_2 : decode cX3_countDoubtful 2 = .ok (.iconst 0, 1) := by decide +kernel
theorem dX3_countDoubtful_3 : decode cX3_countDoubtful 3 = .ok (.istore_n 2, 1) := by decide +kernel
theorem dX3_countDoubtful_4 : decode cX3_countDoubtful 4 = .ok (.iload_n 2, 1) := by decide +kernel
theorem dX3_countDoubtful_5 : decode cX3_countDoubtful 5 = .ok (.aload_n 0, 1) := by decide +kernel
theorem dX3_countDoubtful_6 : decode cX3_countDoubtful 6 = .ok (.getfield 62, 3) := by decide +kernel
theorem dX3_countDoubtful_9 : decode cX3_countDoubtful 9 = .ok (.if_icmp .ge 49, 3) := by decide +kernel
theorem dX3_countDoubtful_12 : decode cX3_countDoubtful 12 = .ok (.iconst 0, 1) := by decide +kernel
theorem dX3_countDoubtful_13 : decode cX3_countDoubtful 13 = .ok (.istore_n 3, 1) := by decide +kernel
theorem dX3_countDoubtful_14 : decode cX3_countDoubtful 14 = .ok (.iload_n 3, 1) := by decide +kernel
theorem dX3_countDoubtful_15 : decode cX3_countDoubtful 15 = .ok (.aload_n 0, 1) := by decide +kernel
theorem dX3_countDoubtful_16 : decode cX3_countDoubtful 16 = .ok (.getfield 65, 3) := by decide +kernel
theorem dX3_countDoubtful_19 : decode cX3_countDoubtful 19 = .ok (.if_icmp .ge 33, 3) := by decide +kernel
theorem dX3_countDoubtful_22 : decode cX3_countDoubtful 22 = .ok (.iload_n 1, 1) := by decide +kernel
theorem dX3_countDoubtful_23 : decode cX3_countDoubtful 23 = .ok (.aload_n 0, 1) := by decide +kernel
theorem dX3_countDoubtful_24 : decode cX3_countDoubtful 24 = .ok (.iload_n 2, 1) := by decide +kernel
theorem dX3_countDoubtful_25 : decode cX3_countDoubtful 25 = .ok (.iload_n 3, 1) := by decide +kernel
theorem dX3_countDoubtful_26 : decode cX3_countDoubtful 26 = .ok (.invokevirtual 140, 3) := by decide +kernel
theorem dX3_countDoubtful_29 : decode cX3_countDoubtful 29 = .ok (.bipush (-9), 2) := by decide +kernel
theorem dX3_countDoubtful_31 : decode cX3_countDoubtful 31 = .ok (.if_icmp .ne 12, 3) := by decide +kernel
theorem dX3_countDoubtful_34 : decode cX3_countDoubtful 34 = .ok (.aload_n 0, 1) := by decide +kernel
theorem dX3_countDoubtful_35 : decode cX3_countDoubtful 35 = .ok (.iload_n 2, 1) := by decide +kernel
theorem dX3_countDoubtful_36 : decode cX3_countDoubtful 36 = .ok (.iload_n 3, 1) := by decide +kernel
theorem dX3_countDoubtful_37 : decode cX3_countDoubtful 37 = .ok (.invokevirtual 94, 3) := by decide +kernel
theorem dX3_countDoubtful_40 : decode cX3_countDoubtful 40 = .ok (.goto 4, 3) := by decide +kernel
theorem dX3_countDoubtful_43 : decode cX3_countDoubtful 43 = .ok (.iconst 0, 1) := by decide +kernel
theorem dX3_countDoubtful_44 : decode cX3_countDoubtful 44 = .ok (.iadd, 1) := by decide +kernel
theorem dX3_countDoubtful_45 : decode cX3_countDoubtful 45 = .ok (.istore_n 1, 1) := by decide +kernel
theorem dX3_countDoubtful_46 : decode cX3_countDoubtful 46 = .ok (.iinc 3 1, 3) := by decide +kernel
theorem dX3_countDoubtful_49 : decode cX3_countDoubtful 49 = .ok (.goto (-35), 3) := by decide +kernel
theorem dX3_countDoubtful_52 : decode cX3_countDoubtful 52 = .ok (.iinc 2 1, 3) := by decide +kernel
theorem dX3_countDoubtful_55 : decode cX3_countDoubtful 55 = .ok (.goto (-51), 3) := by decide +kernel
theorem dX3_countDoubtful_58 : decode cX3_countDoubtful 58 = .ok (.iload_n 1, 1) := by decide +kernel
theorem dX3_countDoubtful_59 : decode cX3_countDoubtful 59 = .ok (.ireturn, 1) := by decide +kernel
def LX3_countDoubtful_14 {ρ : Type} (T : zT) (h10 : zH) (x6 : Nat) (x7 : Int32) (K0 : Int32 → Option ρ) : Nat → Int32 → Int32 → Option ρ
  | 0, _, _ => none
  | k + 1, x8, x9 => (zgi h10 x6 3 1).bind fun x11 => if x11 ≤ x9 then (K0 x8) else (zJ (fun (x12 : Int32) (x13 : Int32) => LX3_countDoubtful_14 T h10 x6 x7 K0 k (x13 + x12) (x9 + 1)) (fun J14 => (FX3_ownerOfFirst T x6 x7 x9 h10).bind fun x16 => if x16 = (-9 : Int32) then ((FX3_marksIn T x6 x7 x9 h10).bind fun x18 => J14 x18 x8) else (J14 0 x8)))
set_option maxHeartbeats 4000000 in
set_option maxRecDepth 100000 in
theorem LX3_countDoubtful_14_ok {X : zX} (C : zC X cX3_countDoubtful 4 RX3 "countDoubtful" (some .int) 4 95) {Z : State → Prop} {al : Bool} {hi : Nat} {ρ : Type} {r9 : ρ} {h10 : zH} {x6 : Nat} {x7 : Int32} {K0 : Int32 → Option ρ} (hK0 : ∀ (y1 : Int32), K0 y1 = some r9 → zW X 4 Z 0 0 al hi h10 52 [(0, .ref x6), (1, .int y1), (2, .int x7)] []) : ∀ (k : Nat) (x8 : Int32) (x9 : Int32), LX3_countDoubtful_14 (xT X) h10 x6 x7 K0 k x8 x9 = some r9 → zW X 4 Z 0 0 al hi h10 14 [(0, .ref x6), (1, .int x8), (2, .int x7), (3, .int x9)] [] := by
  intro k
  induction k with
  | zero =>
    intro x8 x9 hf
    have hf : none = some r9 := hf
    cases hf
  | succ k ih =>
    intro x8 x9 hf
    rw [LX3_countDoubtful_14.eq_2] at hf
    refine z_iload_n C dX3_countDoubtful_14 3 rfl rfl ?_
    refine z_aload_n C dX3_countDoubtful_15 0 rfl rfl ?_
    refine z_getI C fl_X3_65 dX3_countDoubtful_16 hf (fun x11 hf => ?_)
    refine z_icmp_ge (tgt := 52) C dX3_countDoubtful_19 (by decide) hf (fun hf => ?_) (fun hf => ?_)
    · refine z_sub [0, 1, 2] rfl ?_
      exact hK0 _ hf
    · refine z_join (P := fun J => ∀ (x12 : Int32) (x13 : Int32), J x12 x13 = some r9 → zW X 4 Z 0 0 al hi h10 44 [(0, .ref x6), (2, .int x7), (3, .int x9)] [.int x12, .int x13]) hf ?_ ?_
      · intro x12 x13 hf
        refine z_iadd C dX3_countDoubtful_44 ?_
        refine z_istore_n C dX3_countDoubtful_45 rfl (by decide) (lv' := [(1, .int (x13 + x12)), (0, .ref x6), (2, .int x7), (3, .int x9)]) rfl ?_
        refine z_iinc C dX3_countDoubtful_46 (k := 3) (d := 1) rfl (by decide) (by decide) (lv' := [(3, .int (x9 + 1)), (1, .int (x13 + x12)), (0, .ref x6), (2, .int x7)]) rfl ?_
        refine z_goto (tgt := 14) C dX3_countDoubtful_49 (by decide) ?_
        refine z_sub [2, 1, 3, 0] rfl ?_
        exact ih _ _ hf
      · intro J14 kJ14 hf
        refine z_iload_n C dX3_countDoubtful_22 1 rfl rfl ?_
        refine z_aload_n C dX3_countDoubtful_23 0 rfl rfl ?_
        refine z_iload_n C dX3_countDoubtful_24 2 rfl rfl ?_
        refine z_iload_n C dX3_countDoubtful_25 3 rfl rfl ?_
        obtain ⟨x16, g15, hf⟩ := zbind hf
        refine z_callV (kc' := 0) (ks' := 0) C (MX3_ownerOfFirst (xl X) (xD X) (xT X) (xlo X) al hi g15) (OX3_ownerOfFirst g15) rfl cw_X3_140 yv_X3_ownerOfFirst dX3_countDoubtful_26 rfl (by decide) ⟨rfl, rfl⟩ (Nat.le_of_ble_eq_true rfl) (st := [.int x8]) rfl ?_
        refine z_bipush C (v := (-9 : Int32)) dX3_countDoubtful_29 (by decide) ?_
        refine z_icmp_ne (tgt := 43) C dX3_countDoubtful_31 (by decide) hf (fun hf => ?_) (fun hf => ?_)
        · refine z_iconst C (v := 0) dX3_countDoubtful_43 (by decide) ?_
          refine z_sub [0, 2, 3] rfl ?_
          exact kJ14 _ _ hf
        · refine z_aload_n C dX3_countDoubtful_34 0 rfl rfl ?_
          refine z_iload_n C dX3_countDoubtful_35 2 rfl rfl ?_
          refine z_iload_n C dX3_countDoubtful_36 3 rfl rfl ?_
          obtain ⟨x18, g17, hf⟩ := zbind hf
          refine z_callV (kc' := 0) (ks' := 0) C (MX3_marksIn (xl X) (xD X) (xT X) (xlo X) al hi g17) (OX3_marksIn g17) rfl cw_X3_94 yv_X3_marksIn dX3_countDoubtful_37 rfl (by decide) ⟨rfl, rfl⟩ (Nat.le_of_ble_eq_true rfl) (st := [.int x8]) rfl ?_
          refine z_goto (tgt := 44) C dX3_countDoubtful_40 (by decide) ?_
          refine z_sub [0, 2, 3] rfl ?_
          exact kJ14 _ _ hf
def LX3_countDoubtful_4 {ρ : Type} (T : zT) (h4 : zH) (x1 : Nat) (K0 : Int32 → Option ρ) : Nat → Int32 → Int32 → Option ρ
  | 0, _, _ => none
  | k + 1, x2, x3 => (zgi h4 x1 3 0).bind fun x5 => if x5 ≤ x3 then (K0 x2) else (LX3_countDoubtful_14 T h4 x1 x3 (fun (x19 : Int32) => LX3_countDoubtful_4 T h4 x1 K0 k x19 (x3 + 1)) FUEL x2 0)
set_option maxHeartbeats 4000000 in
set_option maxRecDepth 100000 in
theorem LX3_countDoubtful_4_ok {X : zX} (C : zC X cX3_countDoubtful 4 RX3 "countDoubtful" (some .int) 4 95) {Z : State → Prop} {al : Bool} {hi : Nat} {ρ : Type} {r9 : ρ} {h4 : zH} {x1 : Nat} {K0 : Int32 → Option ρ} (hK0 : ∀ (y1 : Int32), K0 y1 = some r9 → zW X 4 Z 0 0 al hi h4 58 [(1, .int y1)] []) : ∀ (k : Nat) (x2 : Int32) (x3 : Int32), LX3_countDoubtful_4 (xT X) h4 x1 K0 k x2 x3 = some r9 → zW X 4 Z 0 0 al hi h4 4 [(0, .ref x1), (1, .int x2), (2, .int x3)] [] := by
  intro k
  induction k with
  | zero =>
    intro x2 x3 hf
    have hf : none = some r9 := hf
    cases hf
  | succ k ih =>
    intro x2 x3 hf
    rw [LX3_countDoubtful_4.eq_2] at hf
    refine z_iload_n C dX3_countDoubtful_4 2 rfl rfl ?_
    refine z_aload_n C dX3_countDoubtful_5 0 rfl rfl ?_
    refine z_getI C fl_X3_62 dX3_countDoubtful_6 hf (fun x5 hf => ?_)
    refine z_icmp_ge (tgt := 58) C dX3_countDoubtful_9 (by decide) hf (fun hf => ?_) (fun hf => ?_)
    · refine z_sub [1] rfl ?_
      exact hK0 _ hf
    · refine z_iconst C (v := 0) dX3_countDoubtful_12 (by decide) ?_
      refine z_istore_n C dX3_countDoubtful_13 rfl (by decide) (lv' := [(3, .int 0), (0, .ref x1), (1, .int x2), (2, .int x3)]) rfl ?_
      refine z_sub [1, 2, 3, 0] rfl ?_
      refine LX3_countDoubtful_14_ok C ?_ FUEL _ _ hf
      · intro x19 hf
        refine z_iinc C dX3_countDoubtful_52 (k := 2) (d := 1) rfl (by decide) (by decide) (lv' := [(2, .int (x3 + 1)), (0, .ref x1), (1, .int x19)]) rfl ?_
        refine z_goto (tgt := 4) C dX3_countDoubtful_55 (by decide) ?_
        refine z_sub [1, 2, 0] rfl ?_
        exact ih _ _ hf
def FX3_countDoubtful (T : zT) (a0 : Nat) (h : zH) : Option Int32 := (zo h a0 3).bind fun _ => LX3_countDoubtful_4 T h a0 (fun (x20 : Int32) => some x20) FUEL 0 0
set_option maxHeartbeats 4000000 in
set_option maxRecDepth 100000 in
theorem BX3_countDoubtful {X : zX} (C : zC X cX3_countDoubtful 4 RX3 "countDoubtful" (some .int) 4 95) {al : Bool} {hi : Nat} {h : zH} {a0 : Nat} {r9 : Int32} (hf : FX3_countDoubtful (xT X) a0 h = some r9) : zW X 4 (zZ X al (some (.int r9), hi, h)) 0 0 al hi h 0 [(0, .ref a0)] [] := by
  unfold FX3_countDoubtful at hf
  obtain ⟨_, _, hf⟩ := zbind hf
  refine z_iconst C (v := 0) dX3_countDoubtful_0 (by decide) ?_
  refine z_istore_n C dX3_countDoubtful_1 rfl (by decide) (lv' := [(1, .int 0), (0, .ref a0)]) rfl ?_
  refine z_iconst C (v := 0) dX3_countDoubtful_2 (by decide) ?_
  refine z_istore_n C dX3_countDoubtful_3 rfl (by decide) (lv' := [(2, .int 0), (1, .int 0), (0, .ref a0)]) rfl ?_
  refine z_sub [2, 1, 0] rfl ?_
  refine LX3_countDoubtful_4_ok C ?_ FUEL _ _ hf
  · intro x20 hf
    refine z_iload_n C dX3_countDoubtful_58 0 rfl rfl ?_
    exact z_ireturn C dX3_countDoubtful_59 (by cases hf; rfl)
theorem MX3_countDoubtful (l : Launch) (D : va_G) (T : zT) (lo : Nat) (al : Bool) (hi : Nat) {h : zH} {a0 : Nat} {v9 : Int32} (hf : FX3_countDoubtful T a0 h = some v9) : zM l yX3_countDoubtful (.code yX3_countDoubtful cX3_countDoubtful 4 (some .int) :: TW) ({ frames := 4, cells := 0, slots := 0, locals := 95 } : Room) D T lo al [.ref a0] hi h (some (.int v9), hi, h) :=
  z_enter (own := RX3) (nm := "countDoubtful") (lv := [(0, .ref a0)]) (by decide +kernel) rfl rfl (Nat.le_of_ble_eq_true rfl) rfl (fun _ _ _ _ _ _ _ _ C => BX3_countDoubtful C hf)
theorem OX3_countDoubtful {T : zT} {h : zH} {a0 : Nat} {r9 : Int32} (hf : FX3_countDoubtful T a0 h = some r9) : ∃ fs, h a0 = some (.inr (3, fs)) := by
  obtain ⟨_, h1, _⟩ := zbind hf
  exact zo_obj h1
theorem dX3_countDecided_0 : decode cX3_countDecided 0 = .ok (.iconst 0, 1) := by decide +kernel
theorem dX3_countDecided_1 : decode cX3_countDecided 1 = .ok (.istore_n 1, 1) := by decide +kernel
theorem dX3_countDecided_2 : decode cX3_countDecided 2 = .ok (.iconst 0, 1) := by decide +kernel
theorem dX3_countDecided_3 : decode cX3_countDecided 3 = .ok (.istore_n 2, 1) := by decide +kernel
theorem dX3_countDecided_4 : decode cX3_countDecided 4 = .ok (.iload_n 2, 1) := by decide +kernel
theorem dX3_countDecided_5 : decode cX3_countDecided 5 = .ok (.aload_n 0, 1) := by decide +kernel
theorem dX3_countDecided_6 : decode cX3_countDecided 6 = .ok (.getfield 62, 3) := by decide +kernel
theorem dX3_countDecided_9 : decode cX3_countDecided 9 = .ok (.if_icmp .ge 61, 3) := by decide +kernel
theorem dX3_countDecided_12 : decode cX3_countDecided 12 = .ok (.iconst 0, 1) := by decide +kernel
theorem dX3_countDecided_13 : decode cX3_countDecided 13 = .ok (.istore_n 3, 1) := by decide +kernel
theorem dX3_countDecided_14 : decode cX3_countDecided 14 = .ok (.iload_n 3, 1) := by decide +kernel
theorem dX3_countDecided_15 : decode cX3_countDecided 15 = .ok (.aload_n 0, 1) := by decide +kernel
theorem dX3_countDecided_16 : decode cX3_countDecided 16 = .ok (.getfield 65, 3) := by decide +kernel
theorem dX3_countDecided_19 : decode cX3_countDecided 19 = .ok (.if_icmp .ge 45, 3) := by decide +kernel
theorem dX3_countDecided_22 : decode cX3_countDecided 22 = .ok (.iconst 0, 1) := by decide +kernel
theorem dX3_countDecided_23 : decode cX3_countDecided 23 = .ok (.istore 4, 2) := by decide +kernel
theorem dX3_countDecided_25 : decode cX3_countDecided 25 = .ok (.iload 4, 2) := by decide +kernel
theorem dX3_countDecided_27 : decode cX3_countDecided 27 = .ok (.iconst 2, 1) := by decide +kernel
theorem dX3_countDecided_28 : decode cX3_countDecided 28 = .ok (.if_icmp .ge 30, 3) := by decide +kernel
theorem dX3_countDecided_31 : decode cX3_countDecided 31 = .ok (.iload_n 1, 1) := by decide +kernel
theorem dX3_countDecided_32 : decode cX3_countDecided 32 = .ok (.aload_n 0, 1) := by decide +kernel
theorem dX3_countDecided_33 : decode cX3_countDecided 33 = .ok (.iload_n 2, 1) := by decide +kernel
theorem dX3_countDecided_34 : decode cX3_countDecided 34 = .ok (.iload_n 3, 1) := by decide +kernel
theorem dX3_countDecided_35 : decode cX3_countDecided 35 = .ok (.iload 4, 2) := by decide +kernel
theorem dX3_countDecided_37 : decode cX3_countDecided 37 = .ok (.invokevirtual 112, 3) := by decide +kernel
theorem dX3_countDecided_40 : decode cX3_countDecided 40 = .ok (.bipush (-9), 2) := by decide +kernel
theorem dX3_countDecided_42 : decode cX3_countDecided 42 = .ok (.if_icmp .eq 7, 3) := by decide +kernel
theorem dX3_countDecided_45 : decode cX3_countDecided 45 = .ok (.iconst 1, 1) := by decide +kernel
theorem dX3_countDecided_46 : decode cX3_countDecided 46 = .ok (.goto 4, 3) := by decide +kernel
theorem dX3_countDecided_49 : decode cX3_countDecided 49 = .ok (.iconst 0, 1) := by decide +kernel
theorem dX3_countDecided_50 : decode cX3_countDecided 50 = .ok (.iadd, 1) := by decide +kernel
theorem dX3_countDecided_51 : decode cX3_countDecided 51 = .ok (.istore_n 1, 1) := by decide +kernel
theorem dX3_countDecided_52 : decode cX3_countDecided 52 = .ok (.iinc 4 1, 3) := by decide +kernel
theorem dX3_countDecided_55 : decode cX3_countDecided 55 = .ok (.goto (-30), 3) := by decide +kernel
theorem dX3_countDecided_58 : decode cX3_countDecided 58 = .ok (.iinc 3 1, 3) := by decide +kernel
theorem dX3_countDecided_61 : decode cX3_countDecided 61 = .ok (.goto (-47), 3) := by decide +kernel
theorem dX3_countDecided_64 : decode cX3_countDecided 64 = .ok (.iinc 2 1, 3) := by decide +kernel
theorem dX3_countDecided_67 : decode cX3_countDecided 67 = .ok (.goto (-63), 3) := by decide +kernel
theorem dX3_countDecided_70 : decode cX3_countDecided 70 = .ok (.iload_n 1, 1) := by decide +kernel
theorem dX3_countDecided_71 : decode cX3_countDecided 71 = .ok (.ireturn, 1) := by decide +kernel
def LX3_countDecided_25 {ρ : Type} (T : zT) (h17 : zH) (x12 : Nat) (x13 : Int32) (x14 : Int32) (K0 : Int32 → Option ρ) : Nat → Int32 → Int32 → Option ρ
  | 0, _, _ => none
  | k + 1, x15, x16 => if 2 ≤ x16 then (K0 x15) else (zJ (fun (x18 : Int32) (x19 : Int32) => LX3_countDecided_25 T h17 x12 x13 x14 K0 k (x19 + x18) (x16 + 1)) (fun J20 => (FX3_decisionOf T x12 x13 x14 x16 h17).bind fun x22 => if x22 = (-9 : Int32) then (J20 0 x15) else (J20 1 x15)))
set_option maxHeartbeats 4000000 in
set_option maxRecDepth 100000 in
theorem LX3_countDecided_25_ok {X : zX} (C : zC X cX3_countDecided 5 RX3 "countDecided" (some .int) 3 68) {Z : State → Prop} {al : Bool} {hi : Nat} {ρ : Type} {r9 : ρ} {h17 : zH} {x12 : Nat} {x13 : Int32} {x14 : Int32} {K0 : Int32 → Option ρ} (hK0 : ∀ (y1 : Int32), K0 y1 = some r9 → zW X 5 Z 0 0 al hi h17 58 [(0, .ref x12), (1, .int y1), (2, .int x13), (3, .int x14)] []) : ∀ (k : Nat) (x15 : Int32) (x16 : Int32), LX3_countDecided_25 (xT X) h17 x12 x13 x14 K0 k x15 x16 = some r9 → zW X 5 Z 0 0 al hi h17 25 [(0, .ref x12), (1, .int x15), (2, .int x13), (3, .int x14), (4, .int x16)] [] := by
  intro k
  induction k with
  | zero =>
    intro x15 x16 hf
    have hf : none = some r9 := hf
    cases hf
  | succ k ih =>
    intro x15 x16 hf
    rw [LX3_countDecided_25.eq_2] at hf
    refine z_iload C dX3_countDecided_25 4 rfl ?_
    refine z_iconst C (v := 2) dX3_countDecided_27 (by decide) ?_
    refine z_icmp_ge (tgt := 58) C dX3_countDecided_28 (by decide) hf (fun hf => ?_) (fun hf => ?_)
    · refine z_sub [0, 1, 2, 3] rfl ?_
      exact hK0 _ hf
    · refine z_join (P := fun J => ∀ (x18 : Int32) (x19 : Int32), J x18 x19 = some r9 → zW X 5 Z 0 0 al hi h17 50 [(0, .ref x12), (2, .int x13), (3, .int x14), (4, .int x16)] [.int x18, .int x19]) hf ?_ ?_
      · intro x18 x19 hf
        refine z_iadd C dX3_countDecided_50 ?_
        refine z_istore_n C dX3_countDecided_51 rfl (by decide) (lv' := [(1, .int (x19 + x18)), (0, .ref x12), (2, .int x13), (3, .int x14), (4, .int x16)]) rfl ?_
        refine z_iinc C dX3_countDecided_52 (k := 4) (d := 1) rfl (by decide) (by decide) (lv' := [(4, .int (x16 + 1)), (1, .int (x19 + x18)), (0, .ref x12), (2, .int x13), (3, .int x14)]) rfl ?_
        refine z_goto (tgt := 25) C dX3_countDecided_55 (by decide) ?_
        refine z_sub [2, 1, 3, 4, 0] rfl ?_
        exact ih _ _ hf
      · intro J20 kJ20 hf
        refine z_iload_n C dX3_countDecided_31 1 rfl rfl ?_
        refine z_aload_n C dX3_countDecided_32 0 rfl rfl ?_
        refine z_iload_n C dX3_countDecided_33 2 rfl rfl ?_
        refine z_iload_n C dX3_countDecided_34 3 rfl rfl ?_
        refine z_iload C dX3_countDecided_35 4 rfl ?_
        obtain ⟨x22, g21, hf⟩ := zbind hf
        refine z_callV (kc' := 0) (ks' := 0) C (MX3_decisionOf (xl X) (xD X) (xT X) (xlo X) al hi g21) (OX3_decisionOf g21) rfl cw_X3_112 yv_X3_decisionOf dX3_countDecided_37 rfl (by decide) ⟨rfl, rfl⟩ (Nat.le_of_ble_eq_true rfl) (st := [.int x15]) rfl ?_
        refine z_bipush C (v := (-9 : Int32)) dX3_countDecided_40 (by decide) ?_
        refine z_icmp_eq (tgt := 49) C dX3_countDecided_42 (by decide) hf (fun hf => ?_) (fun hf => ?_)
        · refine z_iconst C (v := 0) dX3_countDecided_49 (by decide) ?_
          refine z_sub [0, 2, 3, 4] rfl ?_
          exact kJ20 _ _ hf
        · refine z_iconst C (v := 1) dX3_countDecided_45 (by decide) ?_
          refine z_goto (tgt := 50) C dX3_countDecided_46 (by decide) ?_
          refine z_sub [0, 2, 3, 4] rfl ?_
          exact kJ20 _ _ hf
def LX3_countDecided_14 {ρ : Type} (T : zT) (h10 : zH) (x6 : Nat) (x7 : Int32) (K0 : Int32 → Option ρ) : Nat → Int32 → Int32 → Option ρ
  | 0, _, _ => none
  | k + 1, x8, x9 => (zgi h10 x6 3 1).bind fun x11 => if x11 ≤ x9 then (K0 x8) else (LX3_countDecided_25 T h10 x6 x7 x9 (fun (x23 : Int32) => LX3_countDecided_14 T h10 x6 x7 K0 k x23 (x9 + 1)) FUEL x8 0)
set_option maxHeartbeats 4000000 in
set_option maxRecDepth 100000 in
theorem LX3_countDecided_14_ok {X : zX} (C : zC X cX3_countDecided 5 RX3 "countDecided" (some .int) 3 68) {Z : State → Prop} {al : Bool} {hi : Nat} {ρ : Type} {r9 : ρ} {h10 : zH} {x6 : Nat} {x7 : Int32} {K0 : Int32 → Option ρ} (hK0 : ∀ (y1 : Int32), K0 y1 = some r9 → zW X 5 Z 0 0 al hi h10 64 [(0, .ref x6), (1, .int y1), (2, .int x7)] []) : ∀ (k : Nat) (x8 : Int32) (x9 : Int32), LX3_countDecided_14 (xT X) h10 x6 x7 K0 k x8 x9 = some r9 → zW X 5 Z 0 0 al hi h10 14 [(0, .ref x6), (1, .int x8), (2, .int x7), (3, .int x9)] [] := by
  intro k
  induction k with
  | zero =>
    intro x8 x9 hf
    have hf : none = some r9 := hf
    cases hf
  | succ k ih =>
    intro x8 x9 hf
    rw [LX3_countDecided_14.eq_2] at hf
    refine z_iload_n C dX3_countDecided_14 3 rfl rfl ?_
    refine z_aload_n C dX3_countDecided_15 0 rfl rfl ?_
    refine z_getI C fl_X3_65 dX3_countDecided_16 hf (fun x11 hf => ?_)
    refine z_icmp_ge (tgt := 64) C dX3_countDecided_19 (by decide) hf (fun hf => ?_) (fun hf => ?_)
    · refine z_sub [0, 1, 2] rfl ?_
      exact hK0 _ hf
    · refine z_iconst C (v := 0) dX3_countDecided_22 (by decide) ?_
      refine z_istore C dX3_countDecided_23 (by decide) (lv' := [(4, .int 0), (0, .ref x6), (1, .int x8), (2, .int x7), (3, .int x9)]) rfl ?_
      refine z_sub [1, 2, 3, 4, 0] rfl ?_
      refine LX3_countDecided_25_ok C ?_ FUEL _ _ hf
      · intro x23 hf
        refine z_iinc C dX3_countDecided_58 (k := 3) (d := 1) rfl (by decide) (by decide) (lv' := [(3, .int (x9 + 1)), (0, .ref x6), (1, .int x23), (2, .int x7)]) rfl ?_
        refine z_goto (tgt := 14) C dX3_countDecided_61 (by decide) ?_
        refine z_sub [1, 2, 3, 0] rfl ?_
        exact ih _ _ hf
def LX3_countDecided_4 {ρ : Type} (T : zT) (h4 : zH) (x1 : Nat) (K0 : Int32 → Option ρ) : Nat → Int32 → Int32 → Option ρ
  | 0, _, _ => none
  | k + 1, x2, x3 => (zgi h4 x1 3 0).bind fun x5 => if x5 ≤ x3 then (K0 x2) else (LX3_countDecided_14 T h4 x1 x3 (fun (x24 : Int32) => LX3_countDecided_4 T h4 x1 K0 k x24 (x3 + 1)) FUEL x2 0)
set_option maxHeartbeats 4000000 in
set_option maxRecDepth 100000 in
theorem LX3_countDecided_4_ok {X : zX} (C : zC X cX3_countDecided 5 RX3 "countDecided" (some .int) 3 68) {Z : State → Prop} {al : Bool} {hi : Nat} {ρ : Type} {r9 : ρ} {h4 : zH} {x1 : Nat} {K0 : Int32 → Option ρ} (hK0 : ∀ (y1 : Int32), K0 y1 = some r9 → zW X 5 Z 0 0 al hi h4 70 [(1, .int y1)] []) : ∀ (k : Nat) (x2 : Int32) (x3 : Int32), LX3_countDecided_4 (xT X) h4 x1 K0 k x2 x3 = some r9 → zW X 5 Z 0 0 al hi h4 4 [(0, .ref x1), (1, .int x2), (2, .int x3)] [] := by
  intro k
  induction k with
  | zero =>
    intro x2 x3 hf
    have hf : none = some r9 := hf
    cases hf
  | succ k ih =>
    intro x2 x3 hf
    rw [LX3_countDecided_4.eq_2] at hf
    refine z_iload_n C dX3_countDecided_4 2 rfl rfl ?_
    refine z_aload_n C dX3_countDecided_5 0 rfl rfl ?_
    refine z_getI C fl_X3_62 dX3_countDecided_6 hf (fun x5 hf => ?_)
    refine z_icmp_ge (tgt := 70) C dX3_countDecided_9 (by decide) hf (fun hf => ?_) (fun hf => ?_)
    · refine z_sub [1] rfl ?_
      exact hK0 _ hf
    · refine z_iconst C (v := 0) dX3_countDecided_12 (by decide) ?_
      refine z_istore_n C dX3_countDecided_13 rfl (by decide) (lv' := [(3, .int 0), (0, .ref x1), (1, .int x2), (2, .int x3)]) rfl ?_
      refine z_sub [1, 2, 3, 0] rfl ?_
      refine LX3_countDecided_14_ok C ?_ FUEL _ _ hf
      · intro x24 hf
        refine z_iinc C dX3_countDecided_64 (k := 2) (d := 1) rfl (by decide) (by decide) (lv' := [(2, .int (x3 + 1)), (0, .ref x1), (1, .int x24)]) rfl ?_
        refine z_goto (tgt := 4) C dX3_countDecided_67 (by decide) ?_
        refine z_sub [1, 2, 0] rfl ?_
        exact ih _ _ hf
def FX3_countDecided (T : zT) (a0 : Nat) (h : zH) : Option Int32 := (zo h a0 3).bind fun _ => LX3_countDecided_4 T h a0 (fun (x25 : Int32) => some x25) FUEL 0 0
set_option maxHeartbeats 4000000 in
set_option maxRecDepth 100000 in
theorem BX3_countDecided {X : zX} (C : zC X cX3_countDecided 5 RX3 "countDecided" (some .int) 3 68) {al : Bool} {hi : Nat} {h : zH} {a0 : Nat} {r9 : Int32} (hf : FX3_countDecided (xT X) a0 h = some r9) : zW X 5 (zZ X al (some (.int r9), hi, h)) 0 0 al hi h 0 [(0, .ref a0)] [] := by
  unfold FX3_countDecided at hf
  obtain ⟨_, _, hf⟩ := zbind hf
  refine z_iconst C (v := 0) dX3_countDecided_0 (by decide) ?_
  refine z_istore_n C dX3_countDecided_1 rfl (by decide) (lv' := [(1, .int 0), (0, .ref a0)]) rfl ?_
  refine z_iconst C (v := 0) dX3_countDecided_2 (by decide) ?_
  refine z_istore_n C dX3_countDecided_3 rfl (by decide) (lv' := [(2, .int 0), (1, .int 0), (0, .ref a0)]) rfl ?_
  refine z_sub [2, 1, 0] rfl ?_
  refine LX3_countDecided_4_ok C ?_ FUEL _ _ hf
  · intro x25 hf
    refine z_iload_n C dX3_countDecided_70 0 rfl rfl ?_
    exact z_ireturn C dX3_countDecided_71 (by cases hf; rfl)
theorem MX3_countDecided (l : Launch) (D : va_G) (T : zT) (lo : Nat) (al : Bool) (hi : Nat) {h : zH} {a0 : Nat} {v9 : Int32} (hf : FX3_countDecided T a0 h = some v9) : zM l yX3_countDecided (.code yX3_countDecided cX3_countDecided 5 (some .int) :: TW) ({ frames := 3, cells := 0, slots := 0, locals := 68 } : Room) D T lo al [.ref a0] hi h (some (.int v9), hi, h) :=
  z_enter (own := RX3) (nm := "countDecided") (lv := [(0, .ref a0)]) (by decide +kernel) rfl rfl (Nat.le_of_ble_eq_true rfl) rfl (fun _ _ _ _ _ _ _ _ C => BX3_countDecided C hf)
theorem OX3_countDecided {T : zT} {h : zH} {a0 : Nat} {r9 : Int32} (hf : FX3_countDecided T a0 h = some r9) : ∃ fs, h a0 = some (.inr (3, fs)) := by
  obtain ⟨_, h1, _⟩ := zbind hf
  exact zo_obj h1
theorem dX3_countFullCells_0 : decode cX3_countFullCells 0 = .ok (.iconst 0, 1) := by decide +kernel
theorem dX3_countFullCells_1 : decode cX3_countFullCells 1 = .ok (.istore_n 1, 1) := by decide +kernel
theorem dX3_countFullCells_2 : decode cX3_countFullCells 2 = .ok (.iconst 0, 1) := by decide +kernel
theorem dX3_countFullCells_3 : decode cX3_countFullCells 3 = .ok (.istore_n 2, 1) := by decide +kernel
theorem dX3_countFullCells_4 : decode cX3_countFullCells 4 = .ok (.iload_n 2, 1) := by decide +kernel
theorem dX3_countFullCells_5 : decode cX3_countFullCells 5 = .ok (.aload_n 0, 1) := by decide +kernel
theorem dX3_countFullCells_6 : decode cX3_countFullCells 6 = .ok (.getfield 62, 3) := by decide +kernel
theorem dX3_countFullCells_9 : decode cX3_countFullCells 9 = .ok (.if_icmp .ge 42, 3) := by decide +kernel
theorem dX3_countFullCells_12 : decode cX3_countFullCells 12 = .ok (.iconst 0, 1) := by decide +kernel
theorem dX3_countFullCells_13 : decode cX3_countFullCells 13 = .ok (.istore_n 3, 1) := by decide +kernel
theorem dX3_countFullCells_14 : decode cX3_countFullCells 14 = .ok (.iload_n 3, 1) := by decide +kernel
theorem dX3_countFullCells_15 : decode cX3_countFullCells 15 = .ok (.aload_n 0, 1) := by decide +kernel
theorem dX3_countFullCells_16 : decode cX3_countFullCells 16 = .ok (.getfield 65, 3) := by decide +kernel
theorem dX3_countFullCells_19 : decode cX3_countFullCells 19 = .ok (.if_icmp .ge 26, 3) := by decide +kernel
theorem dX3_countFullCells_22 : decode cX3_countFullCells 22 = .ok (.iload_n 1, 1) := by decide +kernel
theorem dX3_countFullCells_23 : decode cX3_countFullCells 23 = .ok (.aload_n 0, 1) := by decide +kernel
theorem dX3_countFullCells_24 : decode cX3_countFullCells 24 = .ok (.iload_n 2, 1) := by decide +kernel
theorem dX3_countFullCells_25 : decode cX3_countFullCells 25 = .ok (.iload_n 3, 1) := by decide +kernel
theorem dX3_countFullCells_26 : decode cX3_countFullCells 26 = .ok (.invokevirtual 87, 3) := by decide +kernel
theorem dX3_countFullCells_29 : decode cX3_countFullCells 29 = .ok (.ifCond .eq 7, 3) := by decide +kernel
theorem dX3_countFullCells_32 : decode cX3_countFullCells 32 = .ok (.iconst 0, 1) := by decide +kernel
theorem dX3_countFullCells_33 : decode cX3_countFullCells 33 = .ok (.goto 4, 3) := by decide +kernel
theorem dX3_countFullCells_36 : decode cX3_countFullCells 36 = .ok (.iconst 1, 1) := by decide +kernel
theorem dX3_countFullCells_37 : decode cX3_countFullCells 37 = .ok (.iadd, 1) := by decide +kernel
theorem dX3_countFullCells_38 : decode cX3_countFullCells 38 = .ok (.istore_n 1, 1) := by decide +kernel
theorem dX3_countFullCells_39 : decode cX3_countFullCells 39 = .ok (.iinc 3 1, 3) := by decide +kernel
theorem dX3_countFullCells_42 : decode cX3_countFullCells 42 = .ok (.goto (-28), 3) := by decide +kernel
theorem dX3_countFullCells_45 : decode cX3_countFullCells 45 = .ok (.iinc 2 1, 3) := by decide +kernel
theorem dX3_countFullCells_48 : decode cX3_countFullCells 48 = .ok (.goto (-44), 3) := by decide +kernel
theorem dX3_countFullCells_51 : decode cX3_countFullCells 51 = .ok (.iload_n 1, 1) := by decide +kernel
theorem dX3_countFullCells_52 : decode cX3_countFullCells 52 = .ok (.ireturn, 1) := by decide +kernel
def LX3_countFullCells_14 {ρ : Type} (T : zT) (h10 : zH) (x6 : Nat) (x7 : Int32) (K0 : Int32 → Option ρ) : Nat → Int32 → Int32 → Option ρ
  | 0, _, _ => none
  | k + 1, x8, x9 => (zgi h10 x6 3 1).bind fun x11 => if x11 ≤ x9 then (K0 x8) else (zJ (fun (x12 : Int32) (x13 : Int32) => LX3_countFullCells_14 T h10 x6 x7 K0 k (x13 + x12) (x9 + 1)) (fun J14 => (FX3_hasRoom T x6 x7 x9 h10).bind fun x16 => if x16 = 0 then (J14 1 x8) else (J14 0 x8)))
set_option maxHeartbeats 4000000 in
set_option maxRecDepth 100000 in
theorem LX3_countFullCells_14_ok {X : zX} (C : zC X cX3_countFullCells 4 RX3 "countFullCells" (some .int) 2 44) {Z : State → Prop} {al : Bool} {hi : Nat} {ρ : Type} {r9 : ρ} {h10 : zH} {x6 : Nat} {x7 : Int32} {K0 : Int32 → Option ρ} (hK0 : ∀ (y1 : Int32), K0 y1 = some r9 → zW X 4 Z 0 0 al hi h10 45 [(0, .ref x6), (1, .int y1), (2, .int x7)] []) : ∀ (k : Nat) (x8 : Int32) (x9 : Int32), LX3_countFullCells_14 (xT X) h10 x6 x7 K0 k x8 x9 = some r9 → zW X 4 Z 0 0 al hi h10 14 [(0, .ref x6), (1, .int x8), (2, .int x7), (3, .int x9)] [] := by
  intro k
  induction k with
  | zero =>
    intro x8 x9 hf
    have hf : none = some r9 := hf
    cases hf
  | succ k ih =>
    intro x8 x9 hf
    rw [LX3_countFullCells_14.eq_2] at hf
    refine z_iload_n C dX3_countFullCells_14 3 rfl rfl ?_
    refine z_aload_n C dX3_countFullCells_15 0 rfl rfl ?_
    refine z_getI C fl_X3_65 dX3_countFullCells_16 hf (fun x11 hf => ?_)
    refine z_icmp_ge (tgt := 45) C dX3_countFullCells_19 (by decide) hf (fun hf => ?_) (fun hf => ?_)
    · refine z_sub [0, 1, 2] rfl ?_
      exact hK0 _ hf
    · refine z_join (P := fun J => ∀ (x12 : Int32) (x13 : Int32), J x12 x13 = some r9 → zW X 4 Z 0 0 al hi h10 37 [(0, .ref x6), (2, .int x7), (3, .int x9)] [.int x12, .int x13]) hf ?_ ?_
      · intro x12 x13 hf
        refine z_iadd C dX3_countFullCells_37 ?_
        refine z_istore_n C dX3_countFullCells_38 rfl (by decide) (lv' := [(1, .int (x13 + x12)), (0, .ref x6), (2, .int x7), (3, .int x9)]) rfl ?_
        refine z_iinc C dX3_countFullCells_39 (k := 3) (d := 1) rfl (by decide) (by decide) (lv' := [(3, .int (x9 + 1)), (1, .int (x13 + x12)), (0, .ref x6), (2, .int x7)]) rfl ?_
        refine z_goto (tgt := 14) C dX3_countFullCells_42 (by decide) ?_
        refine z_sub [2, 1, 3, 0] rfl ?_
        exact ih _ _ hf
      · intro J14 kJ14 hf
        refine z_iload_n C dX3_countFullCells_22 1 rfl rfl ?_
        refine z_aload_n C dX3_countFullCells_23 0 rfl rfl ?_
        refine z_iload_n C dX3_countFullCells_24 2 rfl rfl ?_
        refine z_iload_n C dX3_countFullCells_25 3 rfl rfl ?_
        obtain ⟨x16, g15, hf⟩ := zbind hf
        refine z_callV (kc' := 0) (ks' := 0) C (MX3_hasRoom (xl X) (xD X) (xT X) (xlo X) al hi g15) (OX3_hasRoom g15) rfl cw_X3_87 yv_X3_hasRoom dX3_countFullCells_26 rfl (by decide) ⟨rfl, rfl⟩ (Nat.le_of_ble_eq_true rfl) (st := [.int x8]) rfl ?_
        refine z_if_eq (tgt := 36) C dX3_countFullCells_29 (by decide) hf (fun hf => ?_) (fun hf => ?_)
        · refine z_iconst C (v := 1) dX3_countFullCells_36 (by decide) ?_
          refine z_sub [0, 2, 3] rfl ?_
          exact kJ14 _ _ hf
        · refine z_iconst C (v := 0) dX3_countFullCells_32 (by decide) ?_
          refine z_goto (tgt := 37) C dX3_countFullCells_33 (by decide) ?_
          refine z_sub [0, 2, 3] rfl ?_
          exact kJ14 _ _ hf
def LX3_countFullCells_4 {ρ : Type} (T : zT) (h4 : zH) (x1 : Nat) (K0 : Int32 → Option ρ) : Nat → Int32 → Int32 → Option ρ
  | 0, _, _ => none
  | k + 1, x2, x3 => (zgi h4 x1 3 0).bind fun x5 => if x5 ≤ x3 then (K0 x2) else (LX3_countFullCells_14 T h4 x1 x3 (fun (x17 : Int32) => LX3_countFullCells_4 T h4 x1 K0 k x17 (x3 + 1)) FUEL x2 0)
set_option maxHeartbeats 4000000 in
set_option maxRecDepth 100000 in
theorem LX3_countFullCells_4_ok {X : zX} (C : zC X cX3_countFullCells 4 RX3 "countFullCells" (some .int) 2 44) {Z : State → Prop} {al : Bool} {hi : Nat} {ρ : Type} {r9 : ρ} {h4 : zH} {x1 : Nat} {K0 : Int32 → Option ρ} (hK0 : ∀ (y1 : Int32), K0 y1 = some r9 → zW X 4 Z 0 0 al hi h4 51 [(1, .int y1)] []) : ∀ (k : Nat) (x2 : Int32) (x3 : Int32), LX3_countFullCells_4 (xT X) h4 x1 K0 k x2 x3 = some r9 → zW X 4 Z 0 0 al hi h4 4 [(0, .ref x1), (1, .int x2), (2, .int x3)] [] := by
  intro k
  induction k with
  | zero =>
    intro x2 x3 hf
    have hf : none = some r9 := hf
    cases hf
  | succ k ih =>
    intro x2 x3 hf
    rw [LX3_countFullCells_4.eq_2] at hf
    refine z_iload_n C dX3_countFullCells_4 2 rfl rfl ?_
    refine z_aload_n C dX3_countFullCells_5 0 rfl rfl ?_
    refine z_getI C fl_X3_62 dX3_countFullCells_6 hf (fun x5 hf => ?_)
    refine z_icmp_ge (tgt := 51) C dX3_countFullCells_9 (by decide) hf (fun hf => ?_) (fun hf => ?_)
    · refine z_sub [1] rfl ?_
      exact hK0 _ hf
    · refine z_iconst C (v := 0) dX3_countFullCells_12 (by decide) ?_
      refine z_istore_n C dX3_countFullCells_13 rfl (by decide) (lv' := [(3, .int 0), (0, .ref x1), (1, .int x2), (2, .int x3)]) rfl ?_
      refine z_sub [1, 2, 3, 0] rfl ?_
      refine LX3_countFullCells_14_ok C ?_ FUEL _ _ hf
      · intro x17 hf
        refine z_iinc C dX3_countFullCells_45 (k := 2) (d := 1) rfl (by decide) (by decide) (lv' := [(2, .int (x3 + 1)), (0, .ref x1), (1, .int x17)]) rfl ?_
        refine z_goto (tgt := 4) C dX3_countFullCells_48 (by decide) ?_
        refine z_sub [1, 2, 0] rfl ?_
        exact ih _ _ hf
def FX3_countFullCells (T : zT) (a0 : Nat) (h : zH) : Option Int32 := (zo h a0 3).bind fun _ => LX3_countFullCells_4 T h a0 (fun (x18 : Int32) => some x18) FUEL 0 0
set_option maxHeartbeats 4000000 in
set_option maxRecDepth 100000 in
theorem BX3_countFullCells {X : zX} (C : zC X cX3_countFullCells 4 RX3 "countFullCells" (some .int) 2 44) {al : Bool} {hi : Nat} {h : zH} {a0 : Nat} {r9 : Int32} (hf : FX3_countFullCells (xT X) a0 h = some r9) : zW X 4 (zZ X al (some (.int r9), hi, h)) 0 0 al hi h 0 [(0, .ref a0)] [] := by
  unfold FX3_countFullCells at hf
  obtain ⟨_, _, hf⟩ := zbind hf
  refine z_iconst C (v := 0) dX3_countFullCells_0 (by decide) ?_
  refine z_istore_n C dX3_countFullCells_1 rfl (by decide) (lv' := [(1, .int 0), (0, .ref a0)]) rfl ?_
  refine z_iconst C (v := 0) dX3_countFullCells_2 (by decide) ?_
  refine z_istore_n C dX3_countFullCells_3 rfl (by decide) (lv' := [(2, .int 0), (1, .int 0), (0, .ref a0)]) rfl ?_
  refine z_sub [2, 1, 0] rfl ?_
  refine LX3_countFullCells_4_ok C ?_ FUEL _ _ hf
  · intro x18 hf
    refine z_iload_n C dX3_countFullCells_51 0 rfl rfl ?_
    exact z_ireturn C dX3_countFullCells_52 (by cases hf; rfl)
theorem MX3_countFullCells (l : Launch) (D : va_G) (T : zT) (lo : Nat) (al : Bool) (hi : Nat) {h : zH} {a0 : Nat} {v9 : Int32} (hf : FX3_countFullCells T a0 h = some v9) : zM l yX3_countFullCells (.code yX3_countFullCells cX3_countFullCells 4 (some .int) :: TW) ({ frames := 2, cells := 0, slots := 0, locals := 44 } : Room) D T lo al [.ref a0] hi h (some (.int v9), hi, h) :=
  z_enter (own := RX3) (nm := "countFullCells") (lv := [(0, .ref a0)]) (by decide +kernel) rfl rfl (Nat.le_of_ble_eq_true rfl) rfl (fun _ _ _ _ _ _ _ _ C => BX3_countFullCells C hf)
theorem OX3_countFullCells {T : zT} {h : zH} {a0 : Nat} {r9 : Int32} (hf : FX3_countFullCells T a0 h = some r9) : ∃ fs, h a0 = some (.inr (3, fs)) := by
  obtain ⟨_, h1, _⟩ := zbind hf
  exact zo_obj h1
theorem dX5_init_0 : decode cX5_init 0 = .ok (.aload_n 0, 1) := by decide +kernel
theorem dX5_init_1 : decode cX5_init 1 = .ok (.invokespecial 3, 3) := by decide +kernel
theorem dX5_init_4 : decode cX5_init 4 = .ok (.return_, 1) := by decide +kernel
def FX5_init (T : zT) (a0 : Nat) (h : zH) : Option Unit := (zo h a0 5).bind fun _ => some ()
set_option maxHeartbeats 4000000 in
set_option maxRecDepth 100000 in
theorem BX5_init {X : zX} (C : zC X cX5_init 1 RX5 "<init>" none 1 20) {al : Bool} {hi : Nat} {h : zH} {a0 : Nat} {r9 : Unit} (hf : FX5_init (xT X) a0 h = some r9) : zW X 1 (zZ X al (none, hi, h)) 0 0 al hi h 0 [(0, .ref a0)] [] := by
  unfold FX5_init at hf
  obtain ⟨_, _, hf⟩ := zbind hf
  refine z_aload_n C dX5_init_0 0 rfl rfl ?_
  refine z_objInit C mw_65 mw_obji mw_objc dX5_init_1 ⟨Nat.le_of_ble_eq_true rfl, Nat.le_of_ble_eq_true rfl⟩ ?_
  exact z_vreturn C dX5_init_4 (by cases hf; rfl)
theorem MX5_init (l : Launch) (D : va_G) (T : zT) (lo : Nat) (al : Bool) (hi : Nat) {h : zH} {a0 : Nat} {u9 : Unit} (hf : FX5_init T a0 h = some u9) : zM l yX5_init (.code yX5_init cX5_init 1 none :: TW) ({ frames := 1, cells := 0, slots := 0, locals := 20 } : Room) D T lo al [.ref a0] hi h (none, hi, h) :=
  z_enter (own := RX5) (nm := "<init>") (lv := [(0, .ref a0)]) (by decide +kernel) rfl rfl (Nat.le_of_ble_eq_true rfl) rfl (fun _ _ _ _ _ _ _ _ C => BX5_init C hf)
theorem OX5_init {T : zT} {h : zH} {a0 : Nat} {r9 : Unit} (hf : FX5_init T a0 h = some r9) : ∃ fs, h a0 = some (.inr (5, fs)) := by
  obtain ⟨_, h1, _⟩ := zbind hf
  exact zo_obj h1
theorem dX5_begin_0 : decode cX5_begin 0 = .ok (.aload_n 1, 1) := by decide +kernel
theorem dX5_begin_1 : decode cX5_begin 1 = .ok (.invokevirtual 9, 3) := by decide +kernel
theorem dX5_begin_4 : decode cX5_begin 4 = .ok (.aload_n 0, 1) := by decide +kernel
theorem dX5_begin_5 : decode cX5_begin 5 = .ok (.iconst 0, 1) := by decide +kernel
theorem dX5_begin_6 : decode cX5_begin 6 = .ok (.putfield 16, 3) := by decide +kernel
theorem dX5_begin_9 : decode cX5_begin 9 = .ok (.return_, 1) := by decide +kernel
def FX5_begin (T : zT) (a0 : Nat) (p0 : Nat) (h : zH) : Option zH := (zo h a0 5).bind fun _ => (FX3_makeNew T p0 h).bind fun h2 => (zpv h2 a0 5 0 (.int 0)).bind fun h3 => some h3
set_option maxHeartbeats 4000000 in
set_option maxRecDepth 100000 in
theorem BX5_begin {X : zX} (C : zC X cX5_begin 2 RX5 "begin" none 3 66) {al : Bool} {hi : Nat} {h : zH} {a0 : Nat} {p0 : Nat} {r9 : zH} (hf : FX5_begin (xT X) a0 p0 h = some r9) : zW X 2 (zZ X al (none, hi, r9)) 0 0 al hi h 0 [(0, .ref a0), (1, .ref p0)] [] := by
  unfold FX5_begin at hf
  obtain ⟨_, _, hf⟩ := zbind hf
  refine z_aload_n C dX5_begin_0 1 rfl rfl ?_
  obtain ⟨h2, g1, hf⟩ := zbind hf
  refine z_callV (kc' := 0) (ks' := 0) C (MX3_makeNew (xl X) (xD X) (xT X) (xlo X) al hi g1) (OX3_makeNew g1) rfl cw_X5_9 yv_X3_makeNew dX5_begin_1 rfl (by decide) ⟨rfl, rfl⟩ (Nat.le_of_ble_eq_true rfl) (st := []) rfl ?_
  refine z_aload_n C dX5_begin_4 0 rfl rfl ?_
  refine z_iconst C (v := 0) dX5_begin_5 (by decide) ?_
  refine z_put C fl_X5_16 dX5_begin_6 rfl rfl hf (fun h3 hf => ?_)
  exact z_vreturn C dX5_begin_9 (by cases hf; rfl)
theorem MX5_begin (l : Launch) (D : va_G) (T : zT) (lo : Nat) (al : Bool) (hi : Nat) {h : zH} {a0 : Nat} {p0 : Nat} {h9 : zH} (hf : FX5_begin T a0 p0 h = some h9) : zM l yX5_begin (.code yX5_begin cX5_begin 2 none :: TW) ({ frames := 3, cells := 0, slots := 0, locals := 66 } : Room) D T lo al [.ref a0, .ref p0] hi h (none, hi, h9) :=
  z_enter (own := RX5) (nm := "begin") (lv := [(0, .ref a0), (1, .ref p0)]) (by decide +kernel) rfl rfl (Nat.le_of_ble_eq_true rfl) rfl (fun _ _ _ _ _ _ _ _ C => BX5_begin C hf)
theorem OX5_begin {T : zT} {h : zH} {a0 : Nat} {p0 : Nat} {r9 : zH} (hf : FX5_begin T a0 p0 h = some r9) : ∃ fs, h a0 = some (.inr (5, fs)) := by
  obtain ⟨_, h1, _⟩ := zbind hf
  exact zo_obj h1
theorem dX5_mayEnd_0 : decode cX5_mayEnd 0 = .ok (.aload_n 0, 1) := by decide +kernel
theorem dX5_mayEnd_1 : decode cX5_mayEnd 1 = .ok (.getfield 16, 3) := by decide +kernel
theorem dX5_mayEnd_4 : decode cX5_mayEnd 4 = .ok (.iconst 3, 1) := by decide +kernel
theorem dX5_mayEnd_5 : decode cX5_mayEnd 5 = .ok (.if_icmp .ne 7, 3) := by decide +kernel
theorem dX5_mayEnd_8 : decode cX5_mayEnd 8 = .ok (.iconst 1, 1) := by decide +kernel
theorem dX5_mayEnd_9 : decode cX5_mayEnd 9 = .ok (.goto 4, 3) := by decide +kernel
theorem dX5_mayEnd_12 : decode cX5_mayEnd 12 = .ok (.iconst 0, 1) := by decide +kernel
theorem dX5_mayEnd_13 : decode cX5_mayEnd 13 = .ok (.ireturn, 1) := by decide +kernel
def FX5_mayEnd (T : zT) (a0 : Nat) (h : zH) : Option Int32 := (zo h a0 5).bind fun _ => zJ (fun (x1 : Int32) => if x1 = 0 ∨ x1 = 1 then some x1 else none) (fun J2 => (zgi h a0 5 0).bind fun x3 => if x3 = 3 then (J2 1) else (J2 0))
set_option maxHeartbeats 4000000 in
set_option maxRecDepth 100000 in
theorem BX5_mayEnd {X : zX} (C : zC X cX5_mayEnd 1 RX5 "mayEnd" (some .boolean) 0 0) {al : Bool} {hi : Nat} {h : zH} {a0 : Nat} {r9 : Int32} (hf : FX5_mayEnd (xT X) a0 h = some r9) : zW X 1 (zZ X al (some (.int r9), hi, h)) 0 0 al hi h 0 [(0, .ref a0)] [] := by
  unfold FX5_mayEnd at hf
  obtain ⟨_, _, hf⟩ := zbind hf
  refine z_join (P := fun J => ∀ (x1 : Int32), J x1 = some r9 → zW X 1 (zZ X al (some (.int r9), hi, h)) 0 0 al hi h 13 [] [.int x1]) hf ?_ ?_
  · intro x1 hf
    refine z_ite hf (fun c hf => ?_) (fun c hf => nomatch hf)
    exact z_zreturn C dX5_mayEnd_13 c (by cases hf; rfl)
  · intro J2 kJ2 hf
    refine z_aload_n C dX5_mayEnd_0 0 rfl rfl ?_
    refine z_getI C fl_X5_16 dX5_mayEnd_1 hf (fun x3 hf => ?_)
    refine z_iconst C (v := 3) dX5_mayEnd_4 (by decide) ?_
    refine z_icmp_ne (tgt := 12) C dX5_mayEnd_5 (by decide) hf (fun hf => ?_) (fun hf => ?_)
    · refine z_iconst C (v := 0) dX5_mayEnd_12 (by decide) ?_
      refine z_sub [] rfl ?_
      exact kJ2 _ hf
    · refine z_iconst C (v := 1) dX5_mayEnd_8 (by decide) ?_
      refine z_goto (tgt := 13) C dX5_mayEnd_9 (by decide) ?_
      refine z_sub [] rfl ?_
      exact kJ2 _ hf
theorem MX5_mayEnd (l : Launch) (D : va_G) (T : zT) (lo : Nat) (al : Bool) (hi : Nat) {h : zH} {a0 : Nat} {v9 : Int32} (hf : FX5_mayEnd T a0 h = some v9) : zM l yX5_mayEnd (.code yX5_mayEnd cX5_mayEnd 1 (some .boolean) :: TW) ({ frames := 0, cells := 0, slots := 0, locals := 0 } : Room) D T lo al [.ref a0] hi h (some (.int v9), hi, h) :=
  z_enter (own := RX5) (nm := "mayEnd") (lv := [(0, .ref a0)]) (by decide +kernel) rfl rfl (Nat.le_of_ble_eq_true rfl) rfl (fun _ _ _ _ _ _ _ _ C => BX5_mayEnd C hf)
theorem OX5_mayEnd {T : zT} {h : zH} {a0 : Nat} {r9 : Int32} (hf : FX5_mayEnd T a0 h = some r9) : ∃ fs, h a0 = some (.inr (5, fs)) := by
  obtain ⟨_, h1, _⟩ := zbind hf
  exact zo_obj h1
theorem dX5_digitOf_0 : decode cX5_digitOf 0 = .ok (.iload_n 0, 1) := by decide +kernel
theorem dX5_digitOf_1 : decode cX5_digitOf 1 = .ok (.bipush 48, 2) := by decide +kernel
theorem dX5_digitOf_3 : decode cX5_digitOf 3 = .ok (.if_icmp .lt 16, 3) := by decide +kernel
theorem dX5_digitOf_6 : decode cX5_digitOf 6 = .ok (.iload_n 0, 1) := by decide +kernel
theorem dX5_digitOf_7 : decode cX5_digitOf 7 = .ok (.bipush 57, 2) := by decide +kernel
theorem dX5_digitOf_9 : decode cX5_digitOf 9 = .ok (.if_icmp .gt 10, 3) := by decide +kernel
theorem dX5_digitOf_12 : decode cX5_digitOf 12 = .ok (.iload_n 0, 1) := by decide +kernel
theorem dX5_digitOf_13 : decode cX5_digitOf 13 = .ok (.bipush 48, 2) := by decide +kernel
theorem dX5_digitOf_15 : decode cX5_digitOf 15 = .ok (.isub, 1) := by decide +kernel
theorem dX5_digitOf_16 : decode cX5_digitOf 16 = .ok (.goto 5, 3) := by decide +kernel
theorem dX5_digitOf_19 : decode cX5_digitOf 19 = .ok (.bipush (-9), 2) := by decide +kernel
theorem dX5_digitOf_21 : decode cX5_digitOf 21 = .ok (.ireturn, 1) := by decide +kernel
def FX5_digitOf (T : zT) (p0 : Int32) (h : zH) : Option Int32 := zJ (fun (x1 : Int32) => some x1) (fun J2 => zJ (fun (u9 : Unit) => J2 (-9 : Int32)) (fun J3 => if p0 < 48 then (J3 ()) else (if 57 < p0 then (J3 ()) else (J2 (p0 - 48)))))
set_option maxHeartbeats 4000000 in
set_option maxRecDepth 100000 in
theorem BX5_digitOf {X : zX} (C : zC X cX5_digitOf 1 RX5 "digitOf" (some .int) 0 0) {al : Bool} {hi : Nat} {h : zH} {p0 : Int32} {r9 : Int32} (hf : FX5_digitOf (xT X) p0 h = some r9) : zW X 1 (zZ X al (some (.int r9), hi, h)) 0 0 al hi h 0 [(0, .int p0)] [] := by
  unfold FX5_digitOf at hf
  refine z_join (P := fun J => ∀ (x1 : Int32), J x1 = some r9 → zW X 1 (zZ X al (some (.int r9), hi, h)) 0 0 al hi h 21 [] [.int x1]) hf ?_ ?_
  · intro x1 hf
    exact z_ireturn C dX5_digitOf_21 (by cases hf; rfl)
  · intro J2 kJ2 hf
    refine z_join (P := fun J => ∀ (u9 : Unit), J u9 = some r9 → zW X 1 (zZ X al (some (.int r9), hi, h)) 0 0 al hi h 19 [] []) hf ?_ ?_
    · intro u9 hf
      refine z_bipush C (v := (-9 : Int32)) dX5_digitOf_19 (by decide) ?_
      exact kJ2 _ hf
    · intro J3 kJ3 hf
      refine z_iload_n C dX5_digitOf_0 0 rfl rfl ?_
      refine z_bipush C (v := 48) dX5_digitOf_1 (by decide) ?_
      refine z_icmp_lt (tgt := 19) C dX5_digitOf_3 (by decide) hf (fun hf => ?_) (fun hf => ?_)
      · refine z_sub [] rfl ?_
        exact kJ3 _ hf
      · refine z_iload_n C dX5_digitOf_6 0 rfl rfl ?_
        refine z_bipush C (v := 57) dX5_digitOf_7 (by decide) ?_
        refine z_icmp_gt (tgt := 19) C dX5_digitOf_9 (by decide) hf (fun hf => ?_) (fun hf => ?_)
        · refine z_sub [] rfl ?_
          exact kJ3 _ hf
        · refine z_iload_n C dX5_digitOf_12 0 rfl rfl ?_
          refine z_bipush C (v := 48) dX5_digitOf_13 (by decide) ?_
          refine z_isub C dX5_digitOf_15 ?_
          refine z_goto (tgt := 21) C dX5_digitOf_16 (by decide) ?_
          refine z_sub [] rfl ?_
          exact kJ2 _ hf
theorem MX5_digitOf (l : Launch) (D : va_G) (T : zT) (lo : Nat) (al : Bool) (hi : Nat) {h : zH} {p0 : Int32} {v9 : Int32} (hf : FX5_digitOf T p0 h = some v9) : zM l yX5_digitOf (.code yX5_digitOf cX5_digitOf 1 (some .int) :: TW) ({ frames := 0, cells := 0, slots := 0, locals := 0 } : Room) D T lo al [.int p0] hi h (some (.int v9), hi, h) :=
  z_enter (own := RX5) (nm := "digitOf") (lv := [(0, .int p0)]) (by decide +kernel) rfl rfl (Nat.le_of_ble_eq_true rfl) rfl (fun _ _ _ _ _ _ _ _ C => BX5_digitOf C hf)
theorem dX5_allows_0 : decode cX5_allows 0 = .ok (.iload_n 2, 1) := by decide +kernel
theorem dX5_allows_1 : decode cX5_allows 1 = .ok (.invokestatic 20, 3) := by decide +kernel
theorem dX5_allows_4 : decode cX5_allows 4 = .ok (.istore_n 3, 1) := by decide +kernel
theorem dX5_allows_5 : decode cX5_allows 5 = .ok (.aload_n 0, 1) := by decide +kernel
theorem dX5_allows_6 : decode cX5_allows 6 = .ok (.getfield 16, 3) := by decide +kernel
theorem dX5_allows_9 : decode cX5_allows 9 = .ok (.tableswitch 233 0 13 #[71, 83, 83, 94, 131, 137, 147, 171, 186, 202, 218, 228, 171, 186], 71) := by decide +kernel
theorem dX5_allows_80 : decode cX5_allows 80 = .ok (.iload_n 2, 1) := by decide +kernel
theorem dX5_allows_81 : decode cX5_allows 81 = .ok (.bipush 83, 2) := by decide +kernel
theorem dX5_allows_83 : decode cX5_allows 83 = .ok (.if_icmp .ne 7, 3) := by decide +kernel
theorem dX5_allows_86 : decode cX5_allows 86 = .ok (.iconst 1, 1) := by decide +kernel
theorem dX5_allows_87 : decode cX5_allows 87 = .ok (.goto 4, 3) := by decide +kernel
theorem dX5_allows_90 : decode cX5_allows 90 = .ok (.iconst 0, 1) := by decide +kernel
theorem dX5_allows_91 : decode cX5_allows 91 = .ok (.ireturn, 1) := by decide +kernel
theorem dX5_allows_92 : decode cX5_allows 92 = .ok (.iload_n 3, 1) := by decide +kernel
theorem dX5_allows_93 : decode cX5_allows 93 = .ok (.iconst 1, 1) := by decide +kernel
theorem dX5_allows_94 : decode cX5_allows 94 = .ok (.if_icmp .lt 7, 3) := by decide +kernel
theorem dX5_allows_97 : decode cX5_allows 97 = .ok (.iconst 1, 1) := by decide +kernel
theorem dX5_allows_98 : decode cX5_allows 98 = .ok (.goto 4, 3) := by decide +kernel
theorem dX5_allows_101 : decode cX5_allows 101 = .ok (.iconst 0, 1) := by decide +kernel
theorem dX5_allows_102 : decode cX5_allows 102 = .ok (.ireturn, 1) := by decide +kernel
theorem dX5_allows_103 : decode cX5_allows 103 = .ok (.iload_n 2, 1) := by decide +kernel
theorem dX5_allows_104 : decode cX5_allows 104 = .ok (.bipush 109, 2) := by decide +kernel
theorem dX5_allows_106 : decode cX5_allows 106 = .ok (.if_icmp .ne 10, 3) := by decide +kernel
theorem dX5_allows_109 : decode cX5_allows 109 = .ok (.aload_n 1, 1) := by decide +kernel
theorem dX5_allows_110 : decode cX5_allows 110 = .ok (.invokevirtual 24, 3) := by decide +kernel
theorem dX5_allows_113 : decode cX5_allows 113 = .ok (.goto 26, 3) := by decide +kernel
theorem dX5_allows_116 : decode cX5_allows 116 = .ok (.iload_n 2, 1) := by decide +kernel
theorem dX5_allows_117 : decode cX5_allows 117 = .ok (.bipush 103, 2) := by decide +kernel
theorem dX5_allows_119 : decode cX5_allows 119 = .ok (.if_icmp .eq 15, 3) := by decide +kernel
theorem dX5_allows_122 : decode cX5_allows 122 = .ok (.iload_n 2, 1) := by decide +kernel
theorem dX5_allows_123 : decode cX5_allows 123 = .ok (.bipush 118, 2) := by decide +kernel
theorem dX5_allows_125 : decode cX5_allows 125 = .ok (.if_icmp .eq 9, 3) := by decide +kernel
theorem dX5_allows_128 : decode cX5_allows 128 = .ok (.iload_n 2, 1) := by decide +kernel
theorem dX5_allows_129 : decode cX5_allows 129 = .ok (.bipush 112, 2) := by decide +kernel
theorem dX5_allows_131 : decode cX5_allows 131 = .ok (.if_icmp .ne 7, 3) := by decide +kernel
theorem dX5_allows_134 : decode cX5_allows 134 = .ok (.iconst 1, 1) := by decide +kernel
theorem dX5_allows_135 : decode cX5_allows 135 = .ok (.goto 4, 3) := by decide +kernel
theorem dX5_allows_138 : decode cX5_allows 138 = .ok (.iconst 0, 1) := by decide +kernel
theorem dX5_allows_139 : decode cX5_allows 139 = .ok (.ireturn, 1) := by decide +kernel
theorem dX5_allows_140 : decode cX5_allows 140 = .ok (.aload_n 1, 1) := by decide +kernel
theorem dX5_allows_141 : decode cX5_allows 141 = .ok (.iload_n 3, 1) := by decide +kernel
theorem dX5_allows_142 : decode cX5_allows 142 = .ok (.invokevirtual 28, 3) := by decide +kernel
theorem dX5_allows_145 : decode cX5_allows 145 = .ok (.ireturn, 1) := by decide +kernel
theorem dX5_allows_146 : decode cX5_allows 146 = .ok (.aload_n 1, 1) := by decide +kernel
theorem dX5_allows_147 : decode cX5_allows 147 = .ok (.aload_n 0, 1) := by decide +kernel
theorem dX5_allows_148 : decode cX5_allows 148 = .ok (.getfield 32, 3) := by decide +kernel
theorem dX5_allows_151 : decode cX5_allows 151 = .ok (.iload_n 3, 1) := by decide +kernel
theorem dX5_allows_152 : decode cX5_allows 152 = .ok (.invokevirtual 35, 3) := by decide +kernel
theorem dX5_allows_155 : decode cX5_allows 155 = .ok (.ireturn, 1) := by decide +kernel
theorem dX5_allows_156 : decode cX5_allows 156 = .ok (.iload_n 2, 1) := by decide +kernel
theorem dX5_allows_157 : decode cX5_allows 157 = .ok (.bipush 45, 2) := by decide +kernel
theorem dX5_allows_159 : decode cX5_allows 159 = .ok (.if_icmp .eq 15, 3) := by decide +kernel
theorem dX5_allows_162 : decode cX5_allows 162 = .ok (.iload_n 2, 1) := by decide +kernel
theorem dX5_allows_163 : decode cX5_allows 163 = .ok (.bipush 97, 2) := by decide +kernel
theorem dX5_allows_165 : decode cX5_allows 165 = .ok (.if_icmp .lt 13, 3) := by decide +kernel
theorem dX5_allows_168 : decode cX5_allows 168 = .ok (.iload_n 2, 1) := by decide +kernel
theorem dX5_allows_169 : decode cX5_allows 169 = .ok (.bipush 122, 2) := by decide +kernel
theorem dX5_allows_171 : decode cX5_allows 171 = .ok (.if_icmp .gt 7, 3) := by decide +kernel
theorem dX5_allows_174 : decode cX5_allows 174 = .ok (.iconst 1, 1) := by decide +kernel
theorem dX5_allows_175 : decode cX5_allows 175 = .ok (.goto 4, 3) := by decide +kernel
theorem dX5_allows_178 : decode cX5_allows 178 = .ok (.iconst 0, 1) := by decide +kernel
theorem dX5_allows_179 : decode cX5_allows 179 = .ok (.ireturn, 1) := by decide +kernel
theorem dX5_allows_180 : decode cX5_allows 180 = .ok (.iload_n 3, 1) := by decide +kernel
theorem dX5_allows_181 : decode cX5_allows 181 = .ok (.ifCond .lt 12, 3) := by decide +kernel
theorem dX5_allows_184 : decode cX5_allows 184 = .ok (.iload_n 3, 1) := by decide +kernel
theorem dX5_allows_185 : decode cX5_allows 185 = .ok (.iconst 3, 1) := by decide +kernel
theorem dX5_allows_186 : decode cX5_allows 186 = .ok (.if_icmp .gt 7, 3) := by decide +kernel
theorem dX5_allows_189 : decode cX5_allows 189 = .ok (.iconst 1, 1) := by decide +kernel
theorem dX5_allows_190 : decode cX5_allows 190 = .ok (.goto 4, 3) := by decide +kernel
theorem dX5_allows_193 : decode cX5_allows 193 = .ok (.iconst 0, 1) := by decide +kernel
theorem dX5_allows_194 : decode cX5_allows 194 = .ok (.ireturn, 1) := by decide +kernel
theorem dX5_allows_195 : decode cX5_allows 195 = .ok (.iload_n 3, 1) := by decide +kernel
theorem dX5_allows_196 : decode cX5_allows 196 = .ok (.ifCond .lt 13, 3) := by decide +kernel
theorem dX5_allows_199 : decode cX5_allows 199 = .ok (.iload_n 3, 1) := by decide +kernel
theorem dX5_allows_200 : decode cX5_allows 200 = .ok (.bipush 8, 2) := by decide +kernel
theorem dX5_allows_202 : decode cX5_allows 202 = .ok (.if_icmp .gt 7, 3) := by decide +kernel
theorem dX5_allows_205 : decode cX5_allows 205 = .ok (.iconst 1, 1) := by decide +kernel
theorem dX5_allows_206 : decode cX5_allows 206 = .ok (.goto 4, 3) := by decide +kernel
theorem dX5_allows_209 : decode cX5_allows 209 = .ok (.iconst 0, 1) := by decide +kernel
theorem dX5_allows_210 : decode cX5_allows 210 = .ok (.ireturn, 1) := by decide +kernel
theorem dX5_allows_211 : decode cX5_allows 211 = .ok (.iload_n 3, 1) := by decide +kernel
theorem dX5_allows_212 : decode cX5_allows 212 = .ok (.iconst 1, 1) := by decide +kernel
theorem dX5_allows_213 : decode cX5_allows 213 = .ok (.if_icmp .lt 12, 3) := by decide +kernel
theorem dX5_allows_216 : decode cX5_allows 216 = .ok (.iload_n 3, 1) := by decide +kernel
theorem dX5_allows_217 : decode cX5_allows 217 = .ok (.iconst 3, 1) := by decide +kernel
theorem dX5_allows_218 : decode cX5_allows 218 = .ok (.if_icmp .gt 7, 3) := by decide +kernel
theorem dX5_allows_221 : decode cX5_allows 221 = .ok (.iconst 1, 1) := by decide +kernel
theorem dX5_allows_222 : decode cX5_allows 222 = .ok (.goto 4, 3) := by decide +kernel
theorem dX5_allows_225 : decode cX5_allows 225 = .ok (.iconst 0, 1) := by decide +kernel
theorem dX5_allows_226 : decode cX5_allows 226 = .ok (.ireturn, 1) := by decide +kernel
theorem dX5_allows_227 : decode cX5_allows 227 = .ok (.iload_n 3, 1) := by decide +kernel
theorem dX5_allows_228 : decode cX5_allows 228 = .ok (.ifCond .lt 7, 3) := by decide +kernel
theorem dX5_allows_231 : decode cX5_allows 231 = .ok (.iconst 1, 1) := by decide +kernel
theorem dX5_allows_232 : decode cX5_allows 232 = .ok (.goto 4, 3) := by decide +kernel
theorem dX5_allows_235 : decode cX5_allows 235 = .ok (.iconst 0, 1) := by decide +kernel
theorem dX5_allows_236 : decode cX5_allows 236 = .ok (.ireturn, 1) := by decide +kernel
theorem dX5_allows_237 : decode cX5_allows 237 = .ok (.iload_n 3, 1) := by decide +kernel
theorem dX5_allows_238 : decode cX5_allows 238 = .ok (.invokestatic 39, 3) := by decide +kernel
theorem dX5_allows_241 : decode cX5_allows 241 = .ok (.ireturn, 1) := by decide +kernel
theorem dX5_allows_242 : decode cX5_allows 242 = .ok (.iload_n 3, 1) := by decide +kernel
theorem dX5_allows_243 : decode cX5_allows 243 = .ok (.ifCond .eq 8, 3) := by decide +kernel
theorem dX5_allows_246 : decode cX5_allows 246 = .ok (.iload_n 3, 1) := by decide +kernel
theorem dX5_allows_247 : decode cX5_allows 247 = .ok (.iconst 1, 1) := by decide +kernel
theorem dX5_allows_248 : decode cX5_allows 248 = .ok (.if_icmp .ne 7, 3) := by decide +kernel
theorem dX5_allows_251 : decode cX5_allows 251 = .ok (.iconst 1, 1) := by decide +kernel
theorem dX5_allows_252 : decode cX5_allows 252 = .ok (.goto 4, 3) := by decide +kernel
theorem dX5_allows_255 : decode cX5_allows 255 = .ok (.iconst 0, 1) := by decide +kernel
theorem dX5_allows_256 : decode cX5_allows 256 = .ok (.ireturn, 1) := by decide +kernel
def FX5_allows (T : zT) (a0 : Nat) (p0 : Nat) (p1 : Int32) (h : zH) : Option Int32 := (zo h a0 5).bind fun _ => zJ (fun (x1 : Int32) => zJ (fun (x3 : Int32) => if x3 = 0 ∨ x3 = 1 then some x3 else none) (fun J4 => zJ (fun (u9 : Unit) => J4 0) (fun J5 => if x1 < 0 then (J5 ()) else (if 8 < x1 then (J5 ()) else (J4 1))))) (fun J2 => zJ (fun (x6 : Int32) => zJ (fun (x8 : Int32) => if x8 = 0 ∨ x8 = 1 then some x8 else none) (fun J9 => zJ (fun (u9 : Unit) => J9 0) (fun J10 => if x6 < 0 then (J10 ()) else (if 3 < x6 then (J10 ()) else (J9 1))))) (fun J7 => zJ (fun (x11 : Int32) => zJ (fun (x13 : Int32) => if x13 = 0 ∨ x13 = 1 then some x13 else none) (fun J14 => if x11 < 1 then (J14 0) else (J14 1))) (fun J12 => (FX5_digitOf T p1 h).bind fun x16 => (zgi h a0 5 0).bind fun x17 => if x17 = 0 then (zJ (fun (x18 : Int32) => if x18 = 0 ∨ x18 = 1 then some x18 else none) (fun J19 => if p1 = 83 then (J19 1) else (J19 0))) else (if x17 = 1 then (J12 x16) else (if x17 = 2 then (J12 x16) else (if x17 = 3 then (zJ (fun (x20 : Int32) => if x20 = 0 ∨ x20 = 1 then some x20 else none) (fun J21 => if p1 = 109 then ((FX3_hasRoomAnywhere T p0 h).bind fun x24 => J21 x24) else (zJ (fun (u9 : Unit) => J21 1) (fun J22 => if p1 = 103 then (J22 ()) else (if p1 = 118 then (J22 ()) else (if p1 = 112 then (J22 ()) else (J21 0))))))) else (if x17 = 4 then ((FX3_columnHasRoom T p0 x16 h).bind fun x26 => if x26 = 0 ∨ x26 = 1 then some x26 else none) else (if x17 = 5 then ((zgi h a0 5 1).bind fun x27 => (FX3_hasRoom T p0 x27 x16 h).bind fun x29 => if x29 = 0 ∨ x29 = 1 then some x29 else none) else (if x17 = 6 then (zJ (fun (x30 : Int32) => if x30 = 0 ∨ x30 = 1 then some x30 else none) (fun J31 => zJ (fun (u9 : Unit) => J31 1) (fun J32 => if p1 = 45 then (J32 ()) else (zJ (fun (u9 : Unit) => J31 0) (fun J33 => if p1 < 97 then (J33 ()) else (if 122 < p1 then (J33 ()) else (J32 ()))))))) else (if x17 = 7 then (J7 x16) else (if x17 = 8 then (J2 x16) else (if x17 = 9 then (zJ (fun (x34 : Int32) => if x34 = 0 ∨ x34 = 1 then some x34 else none) (fun J35 => zJ (fun (u9 : Unit) => J35 0) (fun J36 => if x16 < 1 then (J36 ()) else (if 3 < x16 then (J36 ()) else (J35 1))))) else (if x17 = 10 then (zJ (fun (x37 : Int32) => if x37 = 0 ∨ x37 = 1 then some x37 else none) (fun J38 => if x16 < 0 then (J38 0) else (J38 1))) else (if x17 = 11 then ((FX6_isLetter T x16 h).bind fun x40 => if x40 = 0 ∨ x40 = 1 then some x40 else none) else (if x17 = 12 then (J7 x16) else (if x17 = 13 then (J2 x16) else (zJ (fun (x41 : Int32) => if x41 = 0 ∨ x41 = 1 then some x41 else none) (fun J42 => zJ (fun (u9 : Unit) => J42 1) (fun J43 => if x16 = 0 then (J43 ()) else (if x16 = 1 then (J43 ()) else (J42 0)))))))))))))))))))))
set_option maxHeartbeats 4000000 in
set_option maxRecDepth 100000 in
theorem BX5_allows {X : zX} (C : zC X cX5_allows 4 RX5 "allows" (some .boolean) 4 87) {al : Bool} {hi : Nat} {h : zH} {a0 : Nat} {p0 : Nat} {p1 : Int32} {r9 : Int32} (hf : FX5_allows (xT X) a0 p0 p1 h = some r9) : zW X 4 (zZ X al (some (.int r9), hi, h)) 0 0 al hi h 0 [(0, .ref a0), (1, .ref p0), (2, .int p1)] [] := by
  unfold FX5_allows at hf
  obtain ⟨_, _, hf⟩ := zbind hf
  refine z_join (P := fun J => ∀ (x1 : Int32), J x1 = some r9 → zW X 4 (zZ X al (some (.int r9), hi, h)) 0 0 al hi h 195 [(3, .int x1)] []) hf ?_ ?_
  · intro x1 hf
    refine z_join (P := fun J => ∀ (x3 : Int32), J x3 = some r9 → zW X 4 (zZ X al (some (.int r9), hi, h)) 0 0 al hi h 210 [] [.int x3]) hf ?_ ?_
    · intro x3 hf
      refine z_ite hf (fun c hf => ?_) (fun c hf => nomatch hf)
      exact z_zreturn C dX5_allows_210 c (by cases hf; rfl)
    · intro J4 kJ4 hf
      refine z_join (P := fun J => ∀ (u9 : Unit), J u9 = some r9 → zW X 4 (zZ X al (some (.int r9), hi, h)) 0 0 al hi h 209 [] []) hf ?_ ?_
      · intro u9 hf
        refine z_iconst C (v := 0) dX5_allows_209 (by decide) ?_
        exact kJ4 _ hf
      · intro J5 kJ5 hf
        refine z_iload_n C dX5_allows_195 0 rfl rfl ?_
        refine z_if_lt (tgt := 209) C dX5_allows_196 (by decide) hf (fun hf => ?_) (fun hf => ?_)
        · refine z_sub [] rfl ?_
          exact kJ5 _ hf
        · refine z_iload_n C dX5_allows_199 0 rfl rfl ?_
          refine z_bipush C (v := 8) dX5_allows_200 (by decide) ?_
          refine z_icmp_gt (tgt := 209) C dX5_allows_202 (by decide) hf (fun hf => ?_) (fun hf => ?_)
          · refine z_sub [] rfl ?_
            exact kJ5 _ hf
          · refine z_iconst C (v := 1) dX5_allows_205 (by decide) ?_
            refine z_goto (tgt := 210) C dX5_allows_206 (by decide) ?_
            refine z_sub [] rfl ?_
            exact kJ4 _ hf
  · intro J2 kJ2 hf
    refine z_join (P := fun J => ∀ (x6 : Int32), J x6 = some r9 → zW X 4 (zZ X al (some (.int r9), hi, h)) 0 0 al hi h 180 [(3, .int x6)] []) hf ?_ ?_
    · intro x6 hf
      refine z_join (P := fun J => ∀ (x8 : Int32), J x8 = some r9 → zW X 4 (zZ X al (some (.int r9), hi, h)) 0 0 al hi h 194 [] [.int x8]) hf ?_ ?_
      · intro x8 hf
        refine z_ite hf (fun c hf => ?_) (fun c hf => nomatch hf)
        exact z_zreturn C dX5_allows_194 c (by cases hf; rfl)
      · intro J9 kJ9 hf
        refine z_join (P := fun J => ∀ (u9 : Unit), J u9 = some r9 → zW X 4 (zZ X al (some (.int r9), hi, h)) 0 0 al hi h 193 [] []) hf ?_ ?_
        · intro u9 hf
          refine z_iconst C (v := 0) dX5_allows_193 (by decide) ?_
          exact kJ9 _ hf
        · intro J10 kJ10 hf
          refine z_iload_n C dX5_allows_180 0 rfl rfl ?_
          refine z_if_lt (tgt := 193) C dX5_allows_181 (by decide) hf (fun hf => ?_) (fun hf => ?_)
          · refine z_sub [] rfl ?_
            exact kJ10 _ hf
          · refine z_iload_n C dX5_allows_184 0 rfl rfl ?_
            refine z_iconst C (v := 3) dX5_allows_185 (by decide) ?_
            refine z_icmp_gt (tgt := 193) C dX5_allows_186 (by decide) hf (fun hf => ?_) (fun hf => ?_)
            · refine z_sub [] rfl ?_
              exact kJ10 _ hf
            · refine z_iconst C (v := 1) dX5_allows_189 (by decide) ?_
              refine z_goto (tgt := 194) C dX5_allows_190 (by decide) ?_
              refine z_sub [] rfl ?_
              exact kJ9 _ hf
    · intro J7 kJ7 hf
      refine z_join (P := fun J => ∀ (x11 : Int32), J x11 = some r9 → zW X 4 (zZ X al (some (.int r9), hi, h)) 0 0 al hi h 92 [(3, .int x11)] []) hf ?_ ?_
      · intro x11 hf
        refine z_join (P := fun J => ∀ (x13 : Int32), J x13 = some r9 → zW X 4 (zZ X al (some (.int r9), hi, h)) 0 0 al hi h 102 [] [.int x13]) hf ?_ ?_
        · intro x13 hf
          refine z_ite hf (fun c hf => ?_) (fun c hf => nomatch hf)
          exact z_zreturn C dX5_allows_102 c (by cases hf; rfl)
        · intro J14 kJ14 hf
          refine z_iload_n C dX5_allows_92 0 rfl rfl ?_
          refine z_iconst C (v := 1) dX5_allows_93 (by decide) ?_
          refine z_icmp_lt (tgt := 101) C dX5_allows_94 (by decide) hf (fun hf => ?_) (fun hf => ?_)
          · refine z_iconst C (v := 0) dX5_allows_101 (by decide) ?_
            refine z_sub [] rfl ?_
            exact kJ14 _ hf
          · refine z_iconst C (v := 1) dX5_allows_97 (by decide) ?_
            refine z_goto (tgt := 102) C dX5_allows_98 (by decide) ?_
            refine z_sub [] rfl ?_
            exact kJ14 _ hf
      · intro J12 kJ12 hf
        refine z_iload_n C dX5_allows_0 2 rfl rfl ?_
        obtain ⟨x16, g15, hf⟩ := zbind hf
        refine z_callS (kc' := 0) (ks' := 0) C (MX5_digitOf (xl X) (xD X) (xT X) (xlo X) al hi g15) cw_X5_20 ys_X5_digitOf dX5_allows_1 rfl (by decide) ⟨rfl, rfl⟩ (Nat.le_of_ble_eq_true rfl) (st := []) rfl ?_
        refine z_istore_n C dX5_allows_4 rfl (by decide) (lv' := [(3, .int x16), (0, .ref a0), (1, .ref p0), (2, .int p1)]) rfl ?_
        refine z_aload_n C dX5_allows_5 1 rfl rfl ?_
        refine z_getI C fl_X5_16 dX5_allows_6 hf (fun x17 hf => ?_)
        refine z_ite hf (fun c hf => ?_) (fun c0 hf => ?_)
        · refine z_tswIn (k := 0) (off := 71) (tgt := 80) C c dX5_allows_9 (by decide) (by decide) ?_
          refine z_join (P := fun J => ∀ (x18 : Int32), J x18 = some r9 → zW X 4 (zZ X al (some (.int r9), hi, h)) 0 0 al hi h 91 [] [.int x18]) hf ?_ ?_
          · intro x18 hf
            refine z_ite hf (fun c hf => ?_) (fun c hf => nomatch hf)
            exact z_zreturn C dX5_allows_91 c (by cases hf; rfl)
          · intro J19 kJ19 hf
            refine z_iload_n C dX5_allows_80 3 rfl rfl ?_
            refine z_bipush C (v := 83) dX5_allows_81 (by decide) ?_
            refine z_icmp_ne (tgt := 90) C dX5_allows_83 (by decide) hf (fun hf => ?_) (fun hf => ?_)
            · refine z_iconst C (v := 0) dX5_allows_90 (by decide) ?_
              refine z_sub [] rfl ?_
              exact kJ19 _ hf
            · refine z_iconst C (v := 1) dX5_allows_86 (by decide) ?_
              refine z_goto (tgt := 91) C dX5_allows_87 (by decide) ?_
              refine z_sub [] rfl ?_
              exact kJ19 _ hf
        · refine z_ite hf (fun c hf => ?_) (fun c1 hf => ?_)
          · refine z_tswIn (k := 1) (off := 83) (tgt := 92) C c dX5_allows_9 (by decide) (by decide) ?_
            refine z_sub [0] rfl ?_
            exact kJ12 _ hf
          · refine z_ite hf (fun c hf => ?_) (fun c2 hf => ?_)
            · refine z_tswIn (k := 2) (off := 83) (tgt := 92) C c dX5_allows_9 (by decide) (by decide) ?_
              refine z_sub [0] rfl ?_
              exact kJ12 _ hf
            · refine z_ite hf (fun c hf => ?_) (fun c3 hf => ?_)
              · refine z_tswIn (k := 3) (off := 94) (tgt := 103) C c dX5_allows_9 (by decide) (by decide) ?_
                refine z_join (P := fun J => ∀ (x20 : Int32), J x20 = some r9 → zW X 4 (zZ X al (some (.int r9), hi, h)) 0 0 al hi h 139 [] [.int x20]) hf ?_ ?_
                · intro x20 hf
                  refine z_ite hf (fun c hf => ?_) (fun c hf => nomatch hf)
                  exact z_zreturn C dX5_allows_139 c (by cases hf; rfl)
                · intro J21 kJ21 hf
                  refine z_iload_n C dX5_allows_103 3 rfl rfl ?_
                  refine z_bipush C (v := 109) dX5_allows_104 (by decide) ?_
                  refine z_icmp_ne (tgt := 116) C dX5_allows_106 (by decide) hf (fun hf => ?_) (fun hf => ?_)
                  · refine z_join (P := fun J => ∀ (u9 : Unit), J u9 = some r9 → zW X 4 (zZ X al (some (.int r9), hi, h)) 0 0 al hi h 134 [] []) hf ?_ ?_
                    · intro u9 hf
                      refine z_iconst C (v := 1) dX5_allows_134 (by decide) ?_
                      refine z_goto (tgt := 139) C dX5_allows_135 (by decide) ?_
                      exact kJ21 _ hf
                    · intro J22 kJ22 hf
                      refine z_iload_n C dX5_allows_116 3 rfl rfl ?_
                      refine z_bipush C (v := 103) dX5_allows_117 (by decide) ?_
                      refine z_icmp_eq (tgt := 134) C dX5_allows_119 (by decide) hf (fun hf => ?_) (fun hf => ?_)
                      · refine z_sub [] rfl ?_
                        exact kJ22 _ hf
                      · refine z_iload_n C dX5_allows_122 3 rfl rfl ?_
                        refine z_bipush C (v := 118) dX5_allows_123 (by decide) ?_
                        refine z_icmp_eq (tgt := 134) C dX5_allows_125 (by decide) hf (fun hf => ?_) (fun hf => ?_)
                        · refine z_sub [] rfl ?_
                          exact kJ22 _ hf
                        · refine z_iload_n C dX5_allows_128 3 rfl rfl ?_
                          refine z_bipush C (v := 112) dX5_allows_129 (by decide) ?_
                          refine z_icmp_ne (tgt := 138) C dX5_allows_131 (by decide) hf (fun hf => ?_) (fun hf => ?_)
                          · refine z_iconst C (v := 0) dX5_allows_138 (by decide) ?_
                            refine z_sub [] rfl ?_
                            exact kJ21 _ hf
                          · refine z_sub [] rfl ?_
                            exact kJ22 _ hf
                  · refine z_aload_n C dX5_allows_109 2 rfl rfl ?_
                    obtain ⟨x24, g23, hf⟩ := zbind hf
                    refine z_callV (kc' := 0) (ks' := 0) C (MX3_hasRoomAnywhere (xl X) (xD X) (xT X) (xlo X) al hi g23) (OX3_hasRoomAnywhere g23) rfl cw_X5_24 yv_X3_hasRoomAnywhere dX5_allows_110 rfl (by decide) ⟨rfl, rfl⟩ (Nat.le_of_ble_eq_true rfl) (st := []) rfl ?_
                    refine z_goto (tgt := 139) C dX5_allows_113 (by decide) ?_
                    refine z_sub [] rfl ?_
                    exact kJ21 _ hf
              · refine z_ite hf (fun c hf => ?_) (fun c4 hf => ?_)
                · refine z_tswIn (k := 4) (off := 131) (tgt := 140) C c dX5_allows_9 (by decide) (by decide) ?_
                  refine z_aload_n C dX5_allows_140 2 rfl rfl ?_
                  refine z_iload_n C dX5_allows_141 0 rfl rfl ?_
                  obtain ⟨x26, g25, hf⟩ := zbind hf
                  refine z_callV (kc' := 0) (ks' := 0) C (MX3_columnHasRoom (xl X) (xD X) (xT X) (xlo X) al hi g25) (OX3_columnHasRoom g25) rfl cw_X5_28 yv_X3_columnHasRoom dX5_allows_142 rfl (by decide) ⟨rfl, rfl⟩ (Nat.le_of_ble_eq_true rfl) (st := []) rfl ?_
                  refine z_ite hf (fun c hf => ?_) (fun c hf => nomatch hf)
                  exact z_zreturn C dX5_allows_145 c (by cases hf; rfl)
                · refine z_ite hf (fun c hf => ?_) (fun c5 hf => ?_)
                  · refine z_tswIn (k := 5) (off := 137) (tgt := 146) C c dX5_allows_9 (by decide) (by decide) ?_
                    refine z_aload_n C dX5_allows_146 2 rfl rfl ?_
                    refine z_aload_n C dX5_allows_147 1 rfl rfl ?_
                    refine z_getI C fl_X5_32 dX5_allows_148 hf (fun x27 hf => ?_)
                    refine z_iload_n C dX5_allows_151 0 rfl rfl ?_
                    obtain ⟨x29, g28, hf⟩ := zbind hf
                    refine z_callV (kc' := 0) (ks' := 0) C (MX3_hasRoom (xl X) (xD X) (xT X) (xlo X) al hi g28) (OX3_hasRoom g28) rfl cw_X5_35 yv_X3_hasRoom dX5_allows_152 rfl (by decide) ⟨rfl, rfl⟩ (Nat.le_of_ble_eq_true rfl) (st := []) rfl ?_
                    refine z_ite hf (fun c hf => ?_) (fun c hf => nomatch hf)
                    exact z_zreturn C dX5_allows_155 c (by cases hf; rfl)
                  · refine z_ite hf (fun c hf => ?_) (fun c6 hf => ?_)
                    · refine z_tswIn (k := 6) (off := 147) (tgt := 156) C c dX5_allows_9 (by decide) (by decide) ?_
                      refine z_join (P := fun J => ∀ (x30 : Int32), J x30 = some r9 → zW X 4 (zZ X al (some (.int r9), hi, h)) 0 0 al hi h 179 [] [.int x30]) hf ?_ ?_
                      · intro x30 hf
                        refine z_ite hf (fun c hf => ?_) (fun c hf => nomatch hf)
                        exact z_zreturn C dX5_allows_179 c (by cases hf; rfl)
                      · intro J31 kJ31 hf
                        refine z_join (P := fun J => ∀ (u9 : Unit), J u9 = some r9 → zW X 4 (zZ X al (some (.int r9), hi, h)) 0 0 al hi h 174 [] []) hf ?_ ?_
                        · intro u9 hf
                          refine z_iconst C (v := 1) dX5_allows_174 (by decide) ?_
                          refine z_goto (tgt := 179) C dX5_allows_175 (by decide) ?_
                          exact kJ31 _ hf
                        · intro J32 kJ32 hf
                          refine z_iload_n C dX5_allows_156 3 rfl rfl ?_
                          refine z_bipush C (v := 45) dX5_allows_157 (by decide) ?_
                          refine z_icmp_eq (tgt := 174) C dX5_allows_159 (by decide) hf (fun hf => ?_) (fun hf => ?_)
                          · refine z_sub [] rfl ?_
                            exact kJ32 _ hf
                          · refine z_join (P := fun J => ∀ (u9 : Unit), J u9 = some r9 → zW X 4 (zZ X al (some (.int r9), hi, h)) 0 0 al hi h 178 [] []) hf ?_ ?_
                            · intro u9 hf
                              refine z_iconst C (v := 0) dX5_allows_178 (by decide) ?_
                              exact kJ31 _ hf
                            · intro J33 kJ33 hf
                              refine z_iload_n C dX5_allows_162 3 rfl rfl ?_
                              refine z_bipush C (v := 97) dX5_allows_163 (by decide) ?_
                              refine z_icmp_lt (tgt := 178) C dX5_allows_165 (by decide) hf (fun hf => ?_) (fun hf => ?_)
                              · refine z_sub [] rfl ?_
                                exact kJ33 _ hf
                              · refine z_iload_n C dX5_allows_168 3 rfl rfl ?_
                                refine z_bipush C (v := 122) dX5_allows_169 (by decide) ?_
                                refine z_icmp_gt (tgt := 178) C dX5_allows_171 (by decide) hf (fun hf => ?_) (fun hf => ?_)
                                · refine z_sub [] rfl ?_
                                  exact kJ33 _ hf
                                · refine z_sub [] rfl ?_
                                  exact kJ32 _ hf
                    · refine z_ite hf (fun c hf => ?_) (fun c7 hf => ?_)
                      · refine z_tswIn (k := 7) (off := 171) (tgt := 180) C c dX5_allows_9 (by decide) (by decide) ?_
                        refine z_sub [0] rfl ?_
                        exact kJ7 _ hf
                      · refine z_ite hf (fun c hf => ?_) (fun c8 hf => ?_)
                        · refine z_tswIn (k := 8) (off := 186) (tgt := 195) C c dX5_allows_9 (by decide) (by decide) ?_
                          refine z_sub [0] rfl ?_
                          exact kJ2 _ hf
                        · refine z_ite hf (fun c hf => ?_) (fun c9 hf => ?_)
                          · refine z_tswIn (k := 9) (off := 202) (tgt := 211) C c dX5_allows_9 (by decide) (by decide) ?_
                            refine z_join (P := fun J => ∀ (x34 : Int32), J x34 = some r9 → zW X 4 (zZ X al (some (.int r9), hi, h)) 0 0 al hi h 226 [] [.int x34]) hf ?_ ?_
                            · intro x34 hf
                              refine z_ite hf (fun c hf => ?_) (fun c hf => nomatch hf)
                              exact z_zreturn C dX5_allows_226 c (by cases hf; rfl)
                            · intro J35 kJ35 hf
                              refine z_join (P := fun J => ∀ (u9 : Unit), J u9 = some r9 → zW X 4 (zZ X al (some (.int r9), hi, h)) 0 0 al hi h 225 [] []) hf ?_ ?_
                              · intro u9 hf
                                refine z_iconst C (v := 0) dX5_allows_225 (by decide) ?_
                                exact kJ35 _ hf
                              · intro J36 kJ36 hf
                                refine z_iload_n C dX5_allows_211 0 rfl rfl ?_
                                refine z_iconst C (v := 1) dX5_allows_212 (by decide) ?_
                                refine z_icmp_lt (tgt := 225) C dX5_allows_213 (by decide) hf (fun hf => ?_) (fun hf => ?_)
                                · refine z_sub [] rfl ?_
                                  exact kJ36 _ hf
                                · refine z_iload_n C dX5_allows_216 0 rfl rfl ?_
                                  refine z_iconst C (v := 3) dX5_allows_217 (by decide) ?_
                                  refine z_icmp_gt (tgt := 225) C dX5_allows_218 (by decide) hf (fun hf => ?_) (fun hf => ?_)
                                  · refine z_sub [] rfl ?_
                                    exact kJ36 _ hf
                                  · refine z_iconst C (v := 1) dX5_allows_221 (by decide) ?_
                                    refine z_goto (tgt := 226) C dX5_allows_222 (by decide) ?_
                                    refine z_sub [] rfl ?_
                                    exact kJ35 _ hf
                          · refine z_ite hf (fun c hf => ?_) (fun c10 hf => ?_)
                            · refine z_tswIn (k := 10) (off := 218) (tgt := 227) C c dX5_allows_9 (by decide) (by decide) ?_
                              refine z_join (P := fun J => ∀ (x37 : Int32), J x37 = some r9 → zW X 4 (zZ X al (some (.int r9), hi, h)) 0 0 al hi h 236 [] [.int x37]) hf ?_ ?_
                              · intro x37 hf
                                refine z_ite hf (fun c hf => ?_) (fun c hf => nomatch hf)
                                exact z_zreturn C dX5_allows_236 c (by cases hf; rfl)
                              · intro J38 kJ38 hf
                                refine z_iload_n C dX5_allows_227 0 rfl rfl ?_
                                refine z_if_lt (tgt := 235) C dX5_allows_228 (by decide) hf (fun hf => ?_) (fun hf => ?_)
                                · refine z_iconst C (v := 0) dX5_allows_235 (by decide) ?_
                                  refine z_sub [] rfl ?_
                                  exact kJ38 _ hf
                                · refine z_iconst C (v := 1) dX5_allows_231 (by decide) ?_
                                  refine z_goto (tgt := 236) C dX5_allows_232 (by decide) ?_
                                  refine z_sub [] rfl ?_
                                  exact kJ38 _ hf
                            · refine z_ite hf (fun c hf => ?_) (fun c11 hf => ?_)
                              · refine z_tswIn (k := 11) (off := 228) (tgt := 237) C c dX5_allows_9 (by decide) (by decide) ?_
                                refine z_iload_n C dX5_allows_237 0 rfl rfl ?_
                                obtain ⟨x40, g39, hf⟩ := zbind hf
                                refine z_callSN (kc' := 0) (ks' := 0) C (MX6_isLetter (xl X) (xD X) (xT X) (xlo X) al hi g39) cw_X5_39 nw_X5_39 mw_544 mw_26 ys_X6_isLetter dX5_allows_238 rfl (by decide) ⟨rfl, rfl⟩ (Nat.le_of_ble_eq_true rfl) (st := []) rfl ?_
                                refine z_ite hf (fun c hf => ?_) (fun c hf => nomatch hf)
                                exact z_zreturn C dX5_allows_241 c (by cases hf; rfl)
                              · refine z_ite hf (fun c hf => ?_) (fun c12 hf => ?_)
                                · refine z_tswIn (k := 12) (off := 171) (tgt := 180) C c dX5_allows_9 (by decide) (by decide) ?_
                                  refine z_sub [0] rfl ?_
                                  exact kJ7 _ hf
                                · refine z_ite hf (fun c hf => ?_) (fun c13 hf => ?_)
                                  · refine z_tswIn (k := 13) (off := 186) (tgt := 195) C c dX5_allows_9 (by decide) (by decide) ?_
                                    refine z_sub [0] rfl ?_
                                    exact kJ2 _ hf
                                  · refine z_tswOut (tgt := 242) C dX5_allows_9 (by have e0 := z_ne (i := 0) (by decide) c0; have e1 := z_ne (i := 1) (by decide) c1; have e2 := z_ne (i := 2) (by decide) c2; have e3 := z_ne (i := 3) (by decide) c3; have e4 := z_ne (i := 4) (by decide) c4; have e5 := z_ne (i := 5) (by decide) c5; have e6 := z_ne (i := 6) (by decide) c6; have e7 := z_ne (i := 7) (by decide) c7; have e8 := z_ne (i := 8) (by decide) c8; have e9 := z_ne (i := 9) (by decide) c9; have e10 := z_ne (i := 10) (by decide) c10; have e11 := z_ne (i := 11) (by decide) c11; have e12 := z_ne (i := 12) (by decide) c12; have e13 := z_ne (i := 13) (by decide) c13; omega) (by decide) ?_
                                    refine z_join (P := fun J => ∀ (x41 : Int32), J x41 = some r9 → zW X 4 (zZ X al (some (.int r9), hi, h)) 0 0 al hi h 256 [] [.int x41]) hf ?_ ?_
                                    · intro x41 hf
                                      refine z_ite hf (fun c hf => ?_) (fun c hf => nomatch hf)
                                      exact z_zreturn C dX5_allows_256 c (by cases hf; rfl)
                                    · intro J42 kJ42 hf
                                      refine z_join (P := fun J => ∀ (u9 : Unit), J u9 = some r9 → zW X 4 (zZ X al (some (.int r9), hi, h)) 0 0 al hi h 251 [] []) hf ?_ ?_
                                      · intro u9 hf
                                        refine z_iconst C (v := 1) dX5_allows_251 (by decide) ?_
                                        refine z_goto (tgt := 256) C dX5_allows_252 (by decide) ?_
                                        exact kJ42 _ hf
                                      · intro J43 kJ43 hf
                                        refine z_iload_n C dX5_allows_242 0 rfl rfl ?_
                                        refine z_if_eq (tgt := 251) C dX5_allows_243 (by decide) hf (fun hf => ?_) (fun hf => ?_)
                                        · refine z_sub [] rfl ?_
                                          exact kJ43 _ hf
                                        · refine z_iload_n C dX5_allows_246 0 rfl rfl ?_
                                          refine z_iconst C (v := 1) dX5_allows_247 (by decide) ?_
                                          refine z_icmp_ne (tgt := 255) C dX5_allows_248 (by decide) hf (fun hf => ?_) (fun hf => ?_)
                                          · refine z_iconst C (v := 0) dX5_allows_255 (by decide) ?_
                                            refine z_sub [] rfl ?_
                                            exact kJ42 _ hf
                                          · refine z_sub [] rfl ?_
                                            exact kJ43 _ hf
theorem MX5_allows (l : Launch) (D : va_G) (T : zT) (lo : Nat) (al : Bool) (hi : Nat) {h : zH} {a0 : Nat} {p0 : Nat} {p1 : Int32} {v9 : Int32} (hf : FX5_allows T a0 p0 p1 h = some v9) : zM l yX5_allows (.code yX5_allows cX5_allows 4 (some .boolean) :: TW) ({ frames := 4, cells := 0, slots := 0, locals := 87 } : Room) D T lo al [.ref a0, .ref p0, .int p1] hi h (some (.int v9), hi, h) :=
  z_enter (own := RX5) (nm := "allows") (lv := [(0, .ref a0), (1, .ref p0), (2, .int p1)]) (by decide +kernel) rfl rfl (Nat.le_of_ble_eq_true rfl) rfl (fun _ _ _ _ _ _ _ _ C => BX5_allows C hf)
theorem OX5_allows {T : zT} {h : zH} {a0 : Nat} {p0 : Nat} {p1 : Int32} {r9 : Int32} (hf : FX5_allows T a0 p0 p1 h = some r9) : ∃ fs, h a0 = some (.inr (5, fs)) := by
  obtain ⟨_, h1, _⟩ := zbind hf
  exact zo_obj h1
theorem dX5_takeSetting_0 : decode cX5_takeSetting 0 = .ok (.aload_n 0, 1) := by decide +kernel
theorem dX5_takeSetting_1 : decode cX5_takeSetting 1 = .ok (.getfield 16, 3) := by decide +kernel
theorem dX5_takeSetting_4 : decode cX5_takeSetting 4 = .ok (.lookupswitch 60 #[(1, 36), (2, 44), (9, 52)], 36) := by decide +kernel
theorem dX5_takeSetting_40 : decode cX5_takeSetting 40 = .ok (.aload_n 1, 1) := by decide +kernel
theorem dX5_takeSetting_41 : decode cX5_takeSetting 41 = .ok (.iload_n 2, 1) := by decide +kernel
theorem dX5_takeSetting_42 : decode cX5_takeSetting 42 = .ok (.putfield 52, 3) := by decide +kernel
theorem dX5_takeSetting_45 : decode cX5_takeSetting 45 = .ok (.goto 24, 3) := by decide +kernel
theorem dX5_takeSetting_48 : decode cX5_takeSetting 48 = .ok (.aload_n 1, 1) := by decide +kernel
theorem dX5_takeSetting_49 : decode cX5_takeSetting 49 = .ok (.iload_n 2, 1) := by decide +kernel
theorem dX5_takeSetting_50 : decode cX5_takeSetting 50 = .ok (.putfield 55, 3) := by decide +kernel
theorem dX5_takeSetting_53 : decode cX5_takeSetting 53 = .ok (.goto 16, 3) := by decide +kernel
theorem dX5_takeSetting_56 : decode cX5_takeSetting 56 = .ok (.aload_n 1, 1) := by decide +kernel
theorem dX5_takeSetting_57 : decode cX5_takeSetting 57 = .ok (.iload_n 2, 1) := by decide +kernel
theorem dX5_takeSetting_58 : decode cX5_takeSetting 58 = .ok (.putfield 58, 3) := by decide +kernel
theorem dX5_takeSetting_61 : decode cX5_takeSetting 61 = .ok (.goto 8, 3) := by decide +kernel
theorem dX5_takeSetting_64 : decode cX5_takeSetting 64 = .ok (.aload_n 1, 1) := by decide +kernel
theorem dX5_takeSetting_65 : decode cX5_takeSetting 65 = .ok (.iload_n 2, 1) := by decide +kernel
theorem dX5_takeSetting_66 : decode cX5_takeSetting 66 = .ok (.putfield 61, 3) := by decide +kernel
theorem dX5_takeSetting_69 : decode cX5_takeSetting 69 = .ok (.aload_n 0, 1) := by decide +kernel
theorem dX5_takeSetting_70 : decode cX5_takeSetting 70 = .ok (.aload_n 0, 1) := by decide +kernel
theorem dX5_takeSetting_71 : decode cX5_takeSetting 71 = .ok (.getfield 16, 3) := by decide +kernel
theorem dX5_takeSetting_74 : decode cX5_takeSetting 74 = .ok (.iconst 1, 1) := by decide +kernel
theorem dX5_takeSetting_75 : decode cX5_takeSetting 75 = .ok (.if_icmp .ne 7, 3) := by decide +kernel
theorem dX5_takeSetting_78 : decode cX5_takeSetting 78 = .ok (.iconst 2, 1) := by decide +kernel
theorem dX5_takeSetting_79 : decode cX5_takeSetting 79 = .ok (.goto 4, 3) := by decide +kernel
theorem dX5_takeSetting_82 : decode cX5_takeSetting 82 = .ok (.iconst 3, 1) := by decide +kernel
theorem dX5_takeSetting_83 : decode cX5_takeSetting 83 = .ok (.putfield 16, 3) := by decide +kernel
theorem dX5_takeSetting_86 : decode cX5_takeSetting 86 = .ok (.return_, 1) := by decide +kernel
def FX5_takeSetting (T : zT) (a0 : Nat) (p0 : Nat) (p1 : Int32) (h : zH) : Option zH := (zo h a0 5).bind fun _ => zJ (fun (h1 : zH) => zJ (fun (x3 : Int32) (x4 : Nat) => (zpv h1 x4 5 0 (.int x3)).bind fun h6 => some h6) (fun J5 => (zgi h1 a0 5 0).bind fun x7 => if x7 = 1 then (J5 2 a0) else (J5 3 a0))) (fun J2 => (zgi h a0 5 0).bind fun x8 => if x8 = 1 then ((zpv h p0 3 0 (.int p1)).bind fun h9 => J2 h9) else (if x8 = 2 then ((zpv h p0 3 1 (.int p1)).bind fun h10 => J2 h10) else (if x8 = 9 then ((zpv h p0 3 3 (.int p1)).bind fun h11 => J2 h11) else ((zpv h p0 3 2 (.int p1)).bind fun h12 => J2 h12))))
set_option maxHeartbeats 4000000 in
set_option maxRecDepth 100000 in
theorem BX5_takeSetting {X : zX} (C : zC X cX5_takeSetting 3 RX5 "takeSetting" none 0 0) {al : Bool} {hi : Nat} {h : zH} {a0 : Nat} {p0 : Nat} {p1 : Int32} {r9 : zH} (hf : FX5_takeSetting (xT X) a0 p0 p1 h = some r9) : zW X 3 (zZ X al (none, hi, r9)) 0 0 al hi h 0 [(0, .ref a0), (1, .ref p0), (2, .int p1)] [] := by
  unfold FX5_takeSetting at hf
  obtain ⟨_, _, hf⟩ := zbind hf
  refine z_join (P := fun J => ∀ (h1 : zH), J h1 = some r9 → zW X 3 (zZ X al (none, hi, r9)) 0 0 al hi h1 69 [(0, .ref a0)] []) hf ?_ ?_
  · intro h1 hf
    refine z_join (P := fun J => ∀ (x3 : Int32) (x4 : Nat), J x3 x4 = some r9 → zW X 3 (zZ X al (none, hi, r9)) 0 0 al hi h1 83 [] [.int x3, .ref x4]) hf ?_ ?_
    · intro x3 x4 hf
      refine z_put C fl_X5_16 dX5_takeSetting_83 rfl rfl hf (fun h6 hf => ?_)
      exact z_vreturn C dX5_takeSetting_86 (by cases hf; rfl)
    · intro J5 kJ5 hf
      refine z_aload_n C dX5_takeSetting_69 0 rfl rfl ?_
      refine z_aload_n C dX5_takeSetting_70 0 rfl rfl ?_
      refine z_getI C fl_X5_16 dX5_takeSetting_71 hf (fun x7 hf => ?_)
      refine z_iconst C (v := 1) dX5_takeSetting_74 (by decide) ?_
      refine z_icmp_ne (tgt := 82) C dX5_takeSetting_75 (by decide) hf (fun hf => ?_) (fun hf => ?_)
      · refine z_iconst C (v := 3) dX5_takeSetting_82 (by decide) ?_
        refine z_sub [] rfl ?_
        exact kJ5 _ _ hf
      · refine z_iconst C (v := 2) dX5_takeSetting_78 (by decide) ?_
        refine z_goto (tgt := 83) C dX5_takeSetting_79 (by decide) ?_
        refine z_sub [] rfl ?_
        exact kJ5 _ _ hf
  · intro J2 kJ2 hf
    refine z_aload_n C dX5_takeSetting_0 0 rfl rfl ?_
    refine z_getI C fl_X5_16 dX5_takeSetting_1 hf (fun x8 hf => ?_)
    refine z_ite hf (fun c hf => ?_) (fun c1 hf => ?_)
    · refine z_lsw (off := 36) (tgt := 40) C dX5_takeSetting_4 (by decide) (by rw [c]; rfl) (by decide) ?_
      refine z_aload_n C dX5_takeSetting_40 1 rfl rfl ?_
      refine z_iload_n C dX5_takeSetting_41 2 rfl rfl ?_
      refine z_put C fl_X5_52 dX5_takeSetting_42 rfl rfl hf (fun h9 hf => ?_)
      refine z_goto (tgt := 69) C dX5_takeSetting_45 (by decide) ?_
      refine z_sub [0] rfl ?_
      exact kJ2 _ hf
    · refine z_ite hf (fun c hf => ?_) (fun c2 hf => ?_)
      · refine z_lsw (off := 44) (tgt := 48) C dX5_takeSetting_4 (by decide) (by rw [c]; rfl) (by decide) ?_
        refine z_aload_n C dX5_takeSetting_48 1 rfl rfl ?_
        refine z_iload_n C dX5_takeSetting_49 2 rfl rfl ?_
        refine z_put C fl_X5_55 dX5_takeSetting_50 rfl rfl hf (fun h10 hf => ?_)
        refine z_goto (tgt := 69) C dX5_takeSetting_53 (by decide) ?_
        refine z_sub [0] rfl ?_
        exact kJ2 _ hf
      · refine z_ite hf (fun c hf => ?_) (fun c9 hf => ?_)
        · refine z_lsw (off := 52) (tgt := 56) C dX5_takeSetting_4 (by decide) (by rw [c]; rfl) (by decide) ?_
          refine z_aload_n C dX5_takeSetting_56 1 rfl rfl ?_
          refine z_iload_n C dX5_takeSetting_57 2 rfl rfl ?_
          refine z_put C fl_X5_58 dX5_takeSetting_58 rfl rfl hf (fun h11 hf => ?_)
          refine z_goto (tgt := 69) C dX5_takeSetting_61 (by decide) ?_
          refine z_sub [0] rfl ?_
          exact kJ2 _ hf
        · refine z_lsw (off := 60) (tgt := 64) C dX5_takeSetting_4 (by decide) (by show Op.lookupswitch.offset [(1, 36), (2, 44), (9, 52)] _ _ = _; rw [lv_osw c1 (a := 1) (by decide), lv_osw c2 (a := 2) (by decide), lv_osw c9 (a := 9) (by decide)]; rfl) (by decide) ?_
          refine z_aload_n C dX5_takeSetting_64 1 rfl rfl ?_
          refine z_iload_n C dX5_takeSetting_65 2 rfl rfl ?_
          refine z_put C fl_X5_61 dX5_takeSetting_66 rfl rfl hf (fun h12 hf => ?_)
          refine z_sub [0] rfl ?_
          exact kJ2 _ hf
theorem MX5_takeSetting (l : Launch) (D : va_G) (T : zT) (lo : Nat) (al : Bool) (hi : Nat) {h : zH} {a0 : Nat} {p0 : Nat} {p1 : Int32} {h9 : zH} (hf : FX5_takeSetting T a0 p0 p1 h = some h9) : zM l yX5_takeSetting (.code yX5_takeSetting cX5_takeSetting 3 none :: TW) ({ frames := 0, cells := 0, slots := 0, locals := 0 } : Room) D T lo al [.ref a0, .ref p0, .int p1] hi h (none, hi, h9) :=
  z_enter (own := RX5) (nm := "takeSetting") (lv := [(0, .ref a0), (1, .ref p0), (2, .int p1)]) (by decide +kernel) rfl rfl (Nat.le_of_ble_eq_true rfl) rfl (fun _ _ _ _ _ _ _ _ C => BX5_takeSetting C hf)
theorem OX5_takeSetting {T : zT} {h : zH} {a0 : Nat} {p0 : Nat} {p1 : Int32} {r9 : zH} (hf : FX5_takeSetting T a0 p0 p1 h = some r9) : ∃ fs, h a0 = some (.inr (5, fs)) := by
  obtain ⟨_, h1, _⟩ := zbind hf
  exact zo_obj h1
theorem dX5_takeOfMark_0 : decode cX5_takeOfMark 0 = .ok (.aload_n 0, 1) := by decide +kernel
theorem dX5_takeOfMark_1 : decode cX5_takeOfMark 1 = .ok (.getfield 16, 3) := by decide +kernel
theorem dX5_takeOfMark_4 : decode cX5_takeOfMark 4 = .ok (.tableswitch 110 4 7 #[32, 48, 65, 93], 32) := by decide +kernel
theorem dX5_takeOfMark_36 : decode cX5_takeOfMark 36 = .ok (.aload_n 0, 1) := by decide +kernel
theorem dX5_takeOfMark_37 : decode cX5_takeOfMark 37 = .ok (.iload_n 2, 1) := by decide +kernel
theorem dX5_takeOfMark_38 : decode cX5_takeOfMark 38 = .ok (.invokestatic 20, 3) := by decide +kernel
theorem dX5_takeOfMark_41 : decode cX5_takeOfMark 41 = .ok (.putfield 32, 3) := by decide +kernel
theorem dX5_takeOfMark_44 : decode cX5_takeOfMark 44 = .ok (.aload_n 0, 1) := by decide +kernel
theorem dX5_takeOfMark_45 : decode cX5_takeOfMark 45 = .ok (.iconst 5, 1) := by decide +kernel
theorem dX5_takeOfMark_46 : decode cX5_takeOfMark 46 = .ok (.putfield 16, 3) := by decide +kernel
theorem dX5_takeOfMark_49 : decode cX5_takeOfMark 49 = .ok (.goto 94, 3) := by decide +kernel
theorem dX5_takeOfMark_52 : decode cX5_takeOfMark 52 = .ok (.aload_n 0, 1) := by decide +kernel
theorem dX5_takeOfMark_53 : decode cX5_takeOfMark 53 = .ok (.iload_n 2, 1) := by decide +kernel
theorem dX5_takeOfMark_54 : decode cX5_takeOfMark 54 = .ok (.invokestatic 20, 3) := by decide +kernel
theorem dX5_takeOfMark_57 : decode cX5_takeOfMark 57 = .ok (.putfield 64, 3) := by decide +kernel
theorem dX5_takeOfMark_60 : decode cX5_takeOfMark 60 = .ok (.aload_n 0, 1) := by decide +kernel
theorem dX5_takeOfMark_61 : decode cX5_takeOfMark 61 = .ok (.bipush 6, 2) := by decide +kernel
theorem dX5_takeOfMark_63 : decode cX5_takeOfMark 63 = .ok (.putfield 16, 3) := by decide +kernel
theorem dX5_takeOfMark_66 : decode cX5_takeOfMark 66 = .ok (.goto 77, 3) := by decide +kernel
theorem dX5_takeOfMark_69 : decode cX5_takeOfMark 69 = .ok (.aload_n 0, 1) := by decide +kernel
theorem dX5_takeOfMark_70 : decode cX5_takeOfMark 70 = .ok (.iload_n 2, 1) := by decide +kernel
theorem dX5_takeOfMark_71 : decode cX5_takeOfMark 71 = .ok (.bipush 45, 2) := by decide +kernel
theorem dX5_takeOfMark_73 : decode cX5_takeOfMark 73 = .ok (.if_icmp .ne 8, 3) := by decide +kernel
theorem dX5_takeOfMark_76 : decode cX5_takeOfMark 76 = .ok (.bipush 26, 2) := by decide +kernel
theorem dX5_takeOfMark_78 : decode cX5_takeOfMark 78 = .ok (.goto 7, 3) := by decide +kernel
theorem dX5_takeOfMark_81 : decode cX5_takeOfMark 81 = .ok (.iload_n 2, 1) := by decide +kernel
theorem dX5_takeOfMark_82 : decode cX5_takeOfMark 82 = .ok (.bipush 97, 2) := by decide +kernel
theorem dX5_takeOfMark_84 : decode cX5_takeOfMark 84 = .ok (.isub, 1) := by decide +kernel
theorem dX5_takeOfMark_85 : decode cX5_takeOfMark 85 = .ok (.putfield 67, 3) := by decide +kernel
theorem dX5_takeOfMark_88 : decode cX5_takeOfMark 88 = .ok (.aload_n 0, 1) := by decide +kernel
theorem dX5_takeOfMark_89 : decode cX5_takeOfMark 89 = .ok (.bipush 7, 2) := by decide +kernel
theorem dX5_takeOfMark_91 : decode cX5_takeOfMark 91 = .ok (.putfield 16, 3) := by decide +kernel
theorem dX5_takeOfMark_94 : decode cX5_takeOfMark 94 = .ok (.goto 49, 3) := by decide +kernel
theorem dX5_takeOfMark_97 : decode cX5_takeOfMark 97 = .ok (.aload_n 0, 1) := by decide +kernel
theorem dX5_takeOfMark_98 : decode cX5_takeOfMark 98 = .ok (.iload_n 2, 1) := by decide +kernel
theorem dX5_takeOfMark_99 : decode cX5_takeOfMark 99 = .ok (.invokestatic 20, 3) := by decide +kernel
theorem dX5_takeOfMark_102 : decode cX5_takeOfMark 102 = .ok (.putfield 70, 3) := by decide +kernel
theorem dX5_takeOfMark_105 : decode cX5_takeOfMark 105 = .ok (.aload_n 0, 1) := by decide +kernel
theorem dX5_takeOfMark_106 : decode cX5_takeOfMark 106 = .ok (.bipush 8, 2) := by decide +kernel
theorem dX5_takeOfMark_108 : decode cX5_takeOfMark 108 = .ok (.putfield 16, 3) := by decide +kernel
theorem dX5_takeOfMark_111 : decode cX5_takeOfMark 111 = .ok (.goto 32, 3) := by decide +kernel
theorem dX5_takeOfMark_114 : decode cX5_takeOfMark 114 = .ok (.aload_n 1, 1) := by decide +kernel
theorem dX5_takeOfMark_115 : decode cX5_takeOfMark 115 = .ok (.aload_n 0, 1) := by decide +kernel
theorem dX5_takeOfMark_116 : decode cX5_takeOfMark 116 = .ok (.getfield 32, 3) := by decide +kernel
theorem dX5_takeOfMark_119 : decode cX5_takeOfMark 119 = .ok (.aload_n 0, 1) := by decide +kernel
theorem dX5_takeOfMark_120 : decode cX5_takeOfMark 120 = .ok (.getfield 64, 3) := by decide +kernel
theorem dX5_takeOfMark_123 : decode cX5_takeOfMark 123 = .ok (.aload_n 0, 1) := by decide +kernel
theorem dX5_takeOfMark_124 : decode cX5_takeOfMark 124 = .ok (.getfield 67, 3) := by decide +kernel
theorem dX5_takeOfMark_127 : decode cX5_takeOfMark 127 = .ok (.aload_n 0, 1) := by decide +kernel
theorem dX5_takeOfMark_128 : decode cX5_takeOfMark 128 = .ok (.getfield 70, 3) := by decide +kernel
theorem dX5_takeOfMark_131 : decode cX5_takeOfMark 131 = .ok (.iload_n 2, 1) := by decide +kernel
theorem dX5_takeOfMark_132 : decode cX5_takeOfMark 132 = .ok (.invokestatic 20, 3) := by decide +kernel
theorem dX5_takeOfMark_135 : decode cX5_takeOfMark 135 = .ok (.invokevirtual 73, 3) := by decide +kernel
theorem dX5_takeOfMark_138 : decode cX5_takeOfMark 138 = .ok (.aload_n 0, 1) := by decide +kernel
theorem dX5_takeOfMark_139 : decode cX5_takeOfMark 139 = .ok (.iconst 3, 1) := by decide +kernel
theorem dX5_takeOfMark_140 : decode cX5_takeOfMark 140 = .ok (.putfield 16, 3) := by decide +kernel
theorem dX5_takeOfMark_143 : decode cX5_takeOfMark 143 = .ok (.return_, 1) := by decide +kernel
def FX5_takeOfMark (T : zT) (a0 : Nat) (p0 : Nat) (p1 : Int32) (h : zH) : Option zH := (zo h a0 5).bind fun _ => zJ (fun (h1 : zH) => some h1) (fun J2 => (zgi h a0 5 0).bind fun x3 => if x3 = 4 then ((FX5_digitOf T p1 h).bind fun x5 => (zpv h a0 5 1 (.int x5)).bind fun h6 => (zpv h6 a0 5 0 (.int 5)).bind fun h7 => J2 h7) else (if x3 = 5 then ((FX5_digitOf T p1 h).bind fun x9 => (zpv h a0 5 2 (.int x9)).bind fun h10 => (zpv h10 a0 5 0 (.int 6)).bind fun h11 => J2 h11) else (if x3 = 6 then (zJ (fun (x12 : Int32) (x13 : Nat) => (zpv h x13 5 3 (.int x12)).bind fun h15 => (zpv h15 a0 5 0 (.int 7)).bind fun h16 => J2 h16) (fun J14 => if p1 = 45 then (J14 26 a0) else (J14 (p1 - 97) a0))) else (if x3 = 7 then ((FX5_digitOf T p1 h).bind fun x18 => (zpv h a0 5 5 (.int x18)).bind fun h19 => (zpv h19 a0 5 0 (.int 8)).bind fun h20 => J2 h20) else ((zgi h a0 5 1).bind fun x21 => (zgi h a0 5 2).bind fun x22 => (zgi h a0 5 3).bind fun x23 => (zgi h a0 5 5).bind fun x24 => (FX5_digitOf T p1 h).bind fun x26 => (FX3_addMark T p0 x21 x22 x23 x24 x26 h).bind fun h28 => (zpv h28 a0 5 0 (.int 3)).bind fun h29 => J2 h29)))))
set_option maxHeartbeats 4000000 in
set_option maxRecDepth 100000 in
theorem BX5_takeOfMark {X : zX} (C : zC X cX5_takeOfMark 3 RX5 "takeOfMark" none 3 73) {al : Bool} {hi : Nat} {h : zH} {a0 : Nat} {p0 : Nat} {p1 : Int32} {r9 : zH} (hf : FX5_takeOfMark (xT X) a0 p0 p1 h = some r9) : zW X 3 (zZ X al (none, hi, r9)) 0 0 al hi h 0 [(0, .ref a0), (1, .ref p0), (2, .int p1)] [] := by
  unfold FX5_takeOfMark at hf
  obtain ⟨_, _, hf⟩ := zbind hf
  refine z_join (P := fun J => ∀ (h1 : zH), J h1 = some r9 → zW X 3 (zZ X al (none, hi, r9)) 0 0 al hi h1 143 [] []) hf ?_ ?_
  · intro h1 hf
    exact z_vreturn C dX5_takeOfMark_143 (by cases hf; rfl)
  · intro J2 kJ2 hf
    refine z_aload_n C dX5_takeOfMark_0 0 rfl rfl ?_
    refine z_getI C fl_X5_16 dX5_takeOfMark_1 hf (fun x3 hf => ?_)
    refine z_ite hf (fun c hf => ?_) (fun c4 hf => ?_)
    · refine z_tswIn (k := 4) (off := 32) (tgt := 36) C c dX5_takeOfMark_4 (by decide) (by decide) ?_
      refine z_aload_n C dX5_takeOfMark_36 0 rfl rfl ?_
      refine z_iload_n C dX5_takeOfMark_37 2 rfl rfl ?_
      obtain ⟨x5, g4, hf⟩ := zbind hf
      refine z_callS (kc' := 0) (ks' := 0) C (MX5_digitOf (xl X) (xD X) (xT X) (xlo X) al hi g4) cw_X5_20 ys_X5_digitOf dX5_takeOfMark_38 rfl (by decide) ⟨rfl, rfl⟩ (Nat.le_of_ble_eq_true rfl) (st := [.ref a0]) rfl ?_
      refine z_put C fl_X5_32 dX5_takeOfMark_41 rfl rfl hf (fun h6 hf => ?_)
      refine z_aload_n C dX5_takeOfMark_44 0 rfl rfl ?_
      refine z_iconst C (v := 5) dX5_takeOfMark_45 (by decide) ?_
      refine z_put C fl_X5_16 dX5_takeOfMark_46 rfl rfl hf (fun h7 hf => ?_)
      refine z_goto (tgt := 143) C dX5_takeOfMark_49 (by decide) ?_
      refine z_sub [] rfl ?_
      exact kJ2 _ hf
    · refine z_ite hf (fun c hf => ?_) (fun c5 hf => ?_)
      · refine z_tswIn (k := 5) (off := 48) (tgt := 52) C c dX5_takeOfMark_4 (by decide) (by decide) ?_
        refine z_aload_n C dX5_takeOfMark_52 0 rfl rfl ?_
        refine z_iload_n C dX5_takeOfMark_53 2 rfl rfl ?_
        obtain ⟨x9, g8, hf⟩ := zbind hf
        refine z_callS (kc' := 0) (ks' := 0) C (MX5_digitOf (xl X) (xD X) (xT X) (xlo X) al hi g8) cw_X5_20 ys_X5_digitOf dX5_takeOfMark_54 rfl (by decide) ⟨rfl, rfl⟩ (Nat.le_of_ble_eq_true rfl) (st := [.ref a0]) rfl ?_
        refine z_put C fl_X5_64 dX5_takeOfMark_57 rfl rfl hf (fun h10 hf => ?_)
        refine z_aload_n C dX5_takeOfMark_60 0 rfl rfl ?_
        refine z_bipush C (v := 6) dX5_takeOfMark_61 (by decide) ?_
        refine z_put C fl_X5_16 dX5_takeOfMark_63 rfl rfl hf (fun h11 hf => ?_)
        refine z_goto (tgt := 143) C dX5_takeOfMark_66 (by decide) ?_
        refine z_sub [] rfl ?_
        exact kJ2 _ hf
      · refine z_ite hf (fun c hf => ?_) (fun c6 hf => ?_)
        · refine z_tswIn (k := 6) (off := 65) (tgt := 69) C c dX5_takeOfMark_4 (by decide) (by decide) ?_
          refine z_join (P := fun J => ∀ (x12 : Int32) (x13 : Nat), J x12 x13 = some r9 → zW X 3 (zZ X al (none, hi, r9)) 0 0 al hi h 85 [(0, .ref a0)] [.int x12, .ref x13]) hf ?_ ?_
          · intro x12 x13 hf
            refine z_put C fl_X5_67 dX5_takeOfMark_85 rfl rfl hf (fun h15 hf => ?_)
            refine z_aload_n C dX5_takeOfMark_88 0 rfl rfl ?_
            refine z_bipush C (v := 7) dX5_takeOfMark_89 (by decide) ?_
            refine z_put C fl_X5_16 dX5_takeOfMark_91 rfl rfl hf (fun h16 hf => ?_)
            refine z_goto (tgt := 143) C dX5_takeOfMark_94 (by decide) ?_
            refine z_sub [] rfl ?_
            exact kJ2 _ hf
          · intro J14 kJ14 hf
            refine z_aload_n C dX5_takeOfMark_69 0 rfl rfl ?_
            refine z_iload_n C dX5_takeOfMark_70 2 rfl rfl ?_
            refine z_bipush C (v := 45) dX5_takeOfMark_71 (by decide) ?_
            refine z_icmp_ne (tgt := 81) C dX5_takeOfMark_73 (by decide) hf (fun hf => ?_) (fun hf => ?_)
            · refine z_iload_n C dX5_takeOfMark_81 2 rfl rfl ?_
              refine z_bipush C (v := 97) dX5_takeOfMark_82 (by decide) ?_
              refine z_isub C dX5_takeOfMark_84 ?_
              refine z_sub [0] rfl ?_
              exact kJ14 _ _ hf
            · refine z_bipush C (v := 26) dX5_takeOfMark_76 (by decide) ?_
              refine z_goto (tgt := 85) C dX5_takeOfMark_78 (by decide) ?_
              refine z_sub [0] rfl ?_
              exact kJ14 _ _ hf
        · refine z_ite hf (fun c hf => ?_) (fun c7 hf => ?_)
          · refine z_tswIn (k := 7) (off := 93) (tgt := 97) C c dX5_takeOfMark_4 (by decide) (by decide) ?_
            refine z_aload_n C dX5_takeOfMark_97 0 rfl rfl ?_
            refine z_iload_n C dX5_takeOfMark_98 2 rfl rfl ?_
            obtain ⟨x18, g17, hf⟩ := zbind hf
            refine z_callS (kc' := 0) (ks' := 0) C (MX5_digitOf (xl X) (xD X) (xT X) (xlo X) al hi g17) cw_X5_20 ys_X5_digitOf dX5_takeOfMark_99 rfl (by decide) ⟨rfl, rfl⟩ (Nat.le_of_ble_eq_true rfl) (st := [.ref a0]) rfl ?_
            refine z_put C fl_X5_70 dX5_takeOfMark_102 rfl rfl hf (fun h19 hf => ?_)
            refine z_aload_n C dX5_takeOfMark_105 0 rfl rfl ?_
            refine z_bipush C (v := 8) dX5_takeOfMark_106 (by decide) ?_
            refine z_put C fl_X5_16 dX5_takeOfMark_108 rfl rfl hf (fun h20 hf => ?_)
            refine z_goto (tgt := 143) C dX5_takeOfMark_111 (by decide) ?_
            refine z_sub [] rfl ?_
            exact kJ2 _ hf
          · refine z_tswOut (tgt := 114) C dX5_takeOfMark_4 (by have e4 := z_ne (i := 4) (by decide) c4; have e5 := z_ne (i := 5) (by decide) c5; have e6 := z_ne (i := 6) (by decide) c6; have e7 := z_ne (i := 7) (by decide) c7; omega) (by decide) ?_
            refine z_aload_n C dX5_takeOfMark_114 1 rfl rfl ?_
            refine z_aload_n C dX5_takeOfMark_115 0 rfl rfl ?_
            refine z_getI C fl_X5_32 dX5_takeOfMark_116 hf (fun x21 hf => ?_)
            refine z_aload_n C dX5_takeOfMark_119 0 rfl rfl ?_
            refine z_getI C fl_X5_64 dX5_takeOfMark_120 hf (fun x22 hf => ?_)
            refine z_aload_n C dX5_takeOfMark_123 0 rfl rfl ?_
            refine z_getI C fl_X5_67 dX5_takeOfMark_124 hf (fun x23 hf => ?_)
            refine z_aload_n C dX5_takeOfMark_127 0 rfl rfl ?_
            refine z_getI C fl_X5_70 dX5_takeOfMark_128 hf (fun x24 hf => ?_)
            refine z_iload_n C dX5_takeOfMark_131 2 rfl rfl ?_
            obtain ⟨x26, g25, hf⟩ := zbind hf
            refine z_callS (kc' := 0) (ks' := 0) C (MX5_digitOf (xl X) (xD X) (xT X) (xlo X) al hi g25) cw_X5_20 ys_X5_digitOf dX5_takeOfMark_132 rfl (by decide) ⟨rfl, rfl⟩ (Nat.le_of_ble_eq_true rfl) (st := [.int x24, .int x23, .int x22, .int x21, .ref p0]) rfl ?_
            obtain ⟨h28, g27, hf⟩ := zbind hf
            refine z_callV (kc' := 0) (ks' := 0) C (MX3_addMark (xl X) (xD X) (xT X) (xlo X) al hi g27) (OX3_addMark g27) rfl cw_X5_73 yv_X3_addMark dX5_takeOfMark_135 rfl (by decide) ⟨rfl, rfl⟩ (Nat.le_of_ble_eq_true rfl) (st := []) rfl ?_
            refine z_aload_n C dX5_takeOfMark_138 0 rfl rfl ?_
            refine z_iconst C (v := 3) dX5_takeOfMark_139 (by decide) ?_
            refine z_put C fl_X5_16 dX5_takeOfMark_140 rfl rfl hf (fun h29 hf => ?_)
            refine z_sub [] rfl ?_
            exact kJ2 _ hf
theorem MX5_takeOfMark (l : Launch) (D : va_G) (T : zT) (lo : Nat) (al : Bool) (hi : Nat) {h : zH} {a0 : Nat} {p0 : Nat} {p1 : Int32} {h9 : zH} (hf : FX5_takeOfMark T a0 p0 p1 h = some h9) : zM l yX5_takeOfMark (.code yX5_takeOfMark cX5_takeOfMark 3 none :: TW) ({ frames := 3, cells := 0, slots := 0, locals := 73 } : Room) D T lo al [.ref a0, .ref p0, .int p1] hi h (none, hi, h9) :=
  z_enter (own := RX5) (nm := "takeOfMark") (lv := [(0, .ref a0), (1, .ref p0), (2, .int p1)]) (by decide +kernel) rfl rfl (Nat.le_of_ble_eq_true rfl) rfl (fun _ _ _ _ _ _ _ _ C => BX5_takeOfMark C hf)
theorem OX5_takeOfMark {T : zT} {h : zH} {a0 : Nat} {p0 : Nat} {p1 : Int32} {r9 : zH} (hf : FX5_takeOfMark T a0 p0 p1 h = some r9) : ∃ fs, h a0 = some (.inr (5, fs)) := by
  obtain ⟨_, h1, _⟩ := zbind hf
  exact zo_obj h1
theorem dX5_takeOfLetter_0 : decode cX5_takeOfLetter 0 = .ok (.aload_n 0, 1) := by decide +kernel
theorem dX5_takeOfLetter_1 : decode cX5_takeOfLetter 1 = .ok (.getfield 16, 3) := by decide +kernel
theorem dX5_takeOfLetter_4 : decode cX5_takeOfLetter 4 = .ok (.tableswitch 70 11 13 #[28, 42, 56], 28) := by decide +kernel
theorem dX5_takeOfLetter_32 : decode cX5_takeOfLetter 32 = .ok (.aload_n 0, 1) := by decide +kernel
theorem dX5_takeOfLetter_33 : decode cX5_takeOfLetter 33 = .ok (.iload_n 2, 1) := by decide +kernel
theorem dX5_takeOfLetter_34 : decode cX5_takeOfLetter 34 = .ok (.putfield 77, 3) := by decide +kernel
theorem dX5_takeOfLetter_37 : decode cX5_takeOfLetter 37 = .ok (.aload_n 0, 1) := by decide +kernel
theorem dX5_takeOfLetter_38 : decode cX5_takeOfLetter 38 = .ok (.bipush 12, 2) := by decide +kernel
theorem dX5_takeOfLetter_40 : decode cX5_takeOfLetter 40 = .ok (.putfield 16, 3) := by decide +kernel
theorem dX5_takeOfLetter_43 : decode cX5_takeOfLetter 43 = .ok (.goto 53, 3) := by decide +kernel
theorem dX5_takeOfLetter_46 : decode cX5_takeOfLetter 46 = .ok (.aload_n 0, 1) := by decide +kernel
theorem dX5_takeOfLetter_47 : decode cX5_takeOfLetter 47 = .ok (.iload_n 2, 1) := by decide +kernel
theorem dX5_takeOfLetter_48 : decode cX5_takeOfLetter 48 = .ok (.putfield 70, 3) := by decide +kernel
theorem dX5_takeOfLetter_51 : decode cX5_takeOfLetter 51 = .ok (.aload_n 0, 1) := by decide +kernel
theorem dX5_takeOfLetter_52 : decode cX5_takeOfLetter 52 = .ok (.bipush 13, 2) := by decide +kernel
theorem dX5_takeOfLetter_54 : decode cX5_takeOfLetter 54 = .ok (.putfield 16, 3) := by decide +kernel
theorem dX5_takeOfLetter_57 : decode cX5_takeOfLetter 57 = .ok (.goto 39, 3) := by decide +kernel
theorem dX5_takeOfLetter_60 : decode cX5_takeOfLetter 60 = .ok (.aload_n 0, 1) := by decide +kernel
theorem dX5_takeOfLetter_61 : decode cX5_takeOfLetter 61 = .ok (.iload_n 2, 1) := by decide +kernel
theorem dX5_takeOfLetter_62 : decode cX5_takeOfLetter 62 = .ok (.putfield 80, 3) := by decide +kernel
theorem dX5_takeOfLetter_65 : decode cX5_takeOfLetter 65 = .ok (.aload_n 0, 1) := by decide +kernel
theorem dX5_takeOfLetter_66 : decode cX5_takeOfLetter 66 = .ok (.bipush 14, 2) := by decide +kernel
theorem dX5_takeOfLetter_68 : decode cX5_takeOfLetter 68 = .ok (.putfield 16, 3) := by decide +kernel
theorem dX5_takeOfLetter_71 : decode cX5_takeOfLetter 71 = .ok (.goto 25, 3) := by decide +kernel
theorem dX5_takeOfLetter_74 : decode cX5_takeOfLetter 74 = .ok (.aload_n 1, 1) := by decide +kernel
theorem dX5_takeOfLetter_75 : decode cX5_takeOfLetter 75 = .ok (.aload_n 0, 1) := by decide +kernel
theorem dX5_takeOfLetter_76 : decode cX5_takeOfLetter 76 = .ok (.getfield 77, 3) := by decide +kernel
theorem dX5_takeOfLetter_79 : decode cX5_takeOfLetter 79 = .ok (.aload_n 0, 1) := by decide +kernel
theorem dX5_takeOfLetter_80 : decode cX5_takeOfLetter 80 = .ok (.getfield 70, 3) := by decide +kernel
theorem dX5_takeOfLetter_83 : decode cX5_takeOfLetter 83 = .ok (.aload_n 0, 1) := by decide +kernel
theorem dX5_takeOfLetter_84 : decode cX5_takeOfLetter 84 = .ok (.getfield 80, 3) := by decide +kernel
theorem dX5_takeOfLetter_87 : decode cX5_takeOfLetter 87 = .ok (.iload_n 2, 1) := by decide +kernel
theorem dX5_takeOfLetter_88 : decode cX5_takeOfLetter 88 = .ok (.invokevirtual 83, 3) := by decide +kernel
theorem dX5_takeOfLetter_91 : decode cX5_takeOfLetter 91 = .ok (.aload_n 0, 1) := by decide +kernel
theorem dX5_takeOfLetter_92 : decode cX5_takeOfLetter 92 = .ok (.iconst 3, 1) := by decide +kernel
theorem dX5_takeOfLetter_93 : decode cX5_takeOfLetter 93 = .ok (.putfield 16, 3) := by decide +kernel
theorem dX5_takeOfLetter_96 : decode cX5_takeOfLetter 96 = .ok (.return_, 1) := by decide +kernel
def FX5_takeOfLetter (T : zT) (a0 : Nat) (p0 : Nat) (p1 : Int32) (h : zH) : Option zH := (zo h a0 5).bind fun _ => zJ (fun (h1 : zH) => some h1) (fun J2 => (zgi h a0 5 0).bind fun x3 => if x3 = 11 then ((zpv h a0 5 4 (.int p1)).bind fun h4 => (zpv h4 a0 5 0 (.int 12)).bind fun h5 => J2 h5) else (if x3 = 12 then ((zpv h a0 5 5 (.int p1)).bind fun h6 => (zpv h6 a0 5 0 (.int 13)).bind fun h7 => J2 h7) else (if x3 = 13 then ((zpv h a0 5 6 (.int p1)).bind fun h8 => (zpv h8 a0 5 0 (.int 14)).bind fun h9 => J2 h9) else ((zgi h a0 5 4).bind fun x10 => (zgi h a0 5 5).bind fun x11 => (zgi h a0 5 6).bind fun x12 => (FX3_putLetter T p0 x10 x11 x12 p1 h).bind fun h14 => (zpv h14 a0 5 0 (.int 3)).bind fun h15 => J2 h15))))
set_option maxHeartbeats 4000000 in
set_option maxRecDepth 100000 in
theorem BX5_takeOfLetter {X : zX} (C : zC X cX5_takeOfLetter 3 RX5 "takeOfLetter" none 2 46) {al : Bool} {hi : Nat} {h : zH} {a0 : Nat} {p0 : Nat} {p1 : Int32} {r9 : zH} (hf : FX5_takeOfLetter (xT X) a0 p0 p1 h = some r9) : zW X 3 (zZ X al (none, hi, r9)) 0 0 al hi h 0 [(0, .ref a0), (1, .ref p0), (2, .int p1)] [] := by
  unfold FX5_takeOfLetter at hf
  obtain ⟨_, _, hf⟩ := zbind hf
  refine z_join (P := fun J => ∀ (h1 : zH), J h1 = some r9 → zW X 3 (zZ X al (none, hi, r9)) 0 0 al hi h1 96 [] []) hf ?_ ?_
  · intro h1 hf
    exact z_vreturn C dX5_takeOfLetter_96 (by cases hf; rfl)
  · intro J2 kJ2 hf
    refine z_aload_n C dX5_takeOfLetter_0 0 rfl rfl ?_
    refine z_getI C fl_X5_16 dX5_takeOfLetter_1 hf (fun x3 hf => ?_)
    refine z_ite hf (fun c hf => ?_) (fun c11 hf => ?_)
    · refine z_tswIn (k := 11) (off := 28) (tgt := 32) C c dX5_takeOfLetter_4 (by decide) (by decide) ?_
      refine z_aload_n C dX5_takeOfLetter_32 0 rfl rfl ?_
      refine z_iload_n C dX5_takeOfLetter_33 2 rfl rfl ?_
      refine z_put C fl_X5_77 dX5_takeOfLetter_34 rfl rfl hf (fun h4 hf => ?_)
      refine z_aload_n C dX5_takeOfLetter_37 0 rfl rfl ?_
      refine z_bipush C (v := 12) dX5_takeOfLetter_38 (by decide) ?_
      refine z_put C fl_X5_16 dX5_takeOfLetter_40 rfl rfl hf (fun h5 hf => ?_)
      refine z_goto (tgt := 96) C dX5_takeOfLetter_43 (by decide) ?_
      refine z_sub [] rfl ?_
      exact kJ2 _ hf
    · refine z_ite hf (fun c hf => ?_) (fun c12 hf => ?_)
      · refine z_tswIn (k := 12) (off := 42) (tgt := 46) C c dX5_takeOfLetter_4 (by decide) (by decide) ?_
        refine z_aload_n C dX5_takeOfLetter_46 0 rfl rfl ?_
        refine z_iload_n C dX5_takeOfLetter_47 2 rfl rfl ?_
        refine z_put C fl_X5_70 dX5_takeOfLetter_48 rfl rfl hf (fun h6 hf => ?_)
        refine z_aload_n C dX5_takeOfLetter_51 0 rfl rfl ?_
        refine z_bipush C (v := 13) dX5_takeOfLetter_52 (by decide) ?_
        refine z_put C fl_X5_16 dX5_takeOfLetter_54 rfl rfl hf (fun h7 hf => ?_)
        refine z_goto (tgt := 96) C dX5_takeOfLetter_57 (by decide) ?_
        refine z_sub [] rfl ?_
        exact kJ2 _ hf
      · refine z_ite hf (fun c hf => ?_) (fun c13 hf => ?_)
        · refine z_tswIn (k := 13) (off := 56) (tgt := 60) C c dX5_takeOfLetter_4 (by decide) (by decide) ?_
          refine z_aload_n C dX5_takeOfLetter_60 0 rfl rfl ?_
          refine z_iload_n C dX5_takeOfLetter_61 2 rfl rfl ?_
          refine z_put C fl_X5_80 dX5_takeOfLetter_62 rfl rfl hf (fun h8 hf => ?_)
          refine z_aload_n C dX5_takeOfLetter_65 0 rfl rfl ?_
          refine z_bipush C (v := 14) dX5_takeOfLetter_66 (by decide) ?_
          refine z_put C fl_X5_16 dX5_takeOfLetter_68 rfl rfl hf (fun h9 hf => ?_)
          refine z_goto (tgt := 96) C dX5_takeOfLetter_71 (by decide) ?_
          refine z_sub [] rfl ?_
          exact kJ2 _ hf
        · refine z_tswOut (tgt := 74) C dX5_takeOfLetter_4 (by have e11 := z_ne (i := 11) (by decide) c11; have e12 := z_ne (i := 12) (by decide) c12; have e13 := z_ne (i := 13) (by decide) c13; omega) (by decide) ?_
          refine z_aload_n C dX5_takeOfLetter_74 1 rfl rfl ?_
          refine z_aload_n C dX5_takeOfLetter_75 0 rfl rfl ?_
          refine z_getI C fl_X5_77 dX5_takeOfLetter_76 hf (fun x10 hf => ?_)
          refine z_aload_n C dX5_takeOfLetter_79 0 rfl rfl ?_
          refine z_getI C fl_X5_70 dX5_takeOfLetter_80 hf (fun x11 hf => ?_)
          refine z_aload_n C dX5_takeOfLetter_83 0 rfl rfl ?_
          refine z_getI C fl_X5_80 dX5_takeOfLetter_84 hf (fun x12 hf => ?_)
          refine z_iload_n C dX5_takeOfLetter_87 2 rfl rfl ?_
          obtain ⟨h14, g13, hf⟩ := zbind hf
          refine z_callV (kc' := 0) (ks' := 0) C (MX3_putLetter (xl X) (xD X) (xT X) (xlo X) al hi g13) (OX3_putLetter g13) rfl cw_X5_83 yv_X3_putLetter dX5_takeOfLetter_88 rfl (by decide) ⟨rfl, rfl⟩ (Nat.le_of_ble_eq_true rfl) (st := []) rfl ?_
          refine z_aload_n C dX5_takeOfLetter_91 0 rfl rfl ?_
          refine z_iconst C (v := 3) dX5_takeOfLetter_92 (by decide) ?_
          refine z_put C fl_X5_16 dX5_takeOfLetter_93 rfl rfl hf (fun h15 hf => ?_)
          refine z_sub [] rfl ?_
          exact kJ2 _ hf
theorem MX5_takeOfLetter (l : Launch) (D : va_G) (T : zT) (lo : Nat) (al : Bool) (hi : Nat) {h : zH} {a0 : Nat} {p0 : Nat} {p1 : Int32} {h9 : zH} (hf : FX5_takeOfLetter T a0 p0 p1 h = some h9) : zM l yX5_takeOfLetter (.code yX5_takeOfLetter cX5_takeOfLetter 3 none :: TW) ({ frames := 2, cells := 0, slots := 0, locals := 46 } : Room) D T lo al [.ref a0, .ref p0, .int p1] hi h (none, hi, h9) :=
  z_enter (own := RX5) (nm := "takeOfLetter") (lv := [(0, .ref a0), (1, .ref p0), (2, .int p1)]) (by decide +kernel) rfl rfl (Nat.le_of_ble_eq_true rfl) rfl (fun _ _ _ _ _ _ _ _ C => BX5_takeOfLetter C hf)
theorem OX5_takeOfLetter {T : zT} {h : zH} {a0 : Nat} {p0 : Nat} {p1 : Int32} {r9 : zH} (hf : FX5_takeOfLetter T a0 p0 p1 h = some r9) : ∃ fs, h a0 = some (.inr (5, fs)) := by
  obtain ⟨_, h1, _⟩ := zbind hf
  exact zo_obj h1
theorem dX5_take_0 : decode cX5_take 0 = .ok (.iload_n 2, 1) := by decide +kernel
theorem dX5_take_1 : decode cX5_take 1 = .ok (.invokestatic 20, 3) := by decide +kernel
theorem dX5_take_4 : decode cX5_take 4 = .ok (.istore_n 3, 1) := by decide +kernel
theorem dX5_take_5 : decode cX5_take 5 = .ok (.aload_n 0, 1) := by decide +kernel
theorem dX5_take_6 : decode cX5_take 6 = .ok (.getfield 16, 3) := by decide +kernel
theorem dX5_take_9 : decode cX5_take 9 = .ok (.tableswitch 126 0 10 #[59, 108, 108, 67, 117, 117, 117, 117, 117, 108, 108], 59) := by decide +kernel
theorem dX5_take_68 : decode cX5_take 68 = .ok (.aload_n 0, 1) := by decide +kernel
theorem dX5_take_69 : decode cX5_take 69 = .ok (.iconst 1, 1) := by decide +kernel
theorem dX5_take_70 : decode cX5_take 70 = .ok (.putfield 16, 3) := by decide +kernel
theorem dX5_take_73 : decode cX5_take 73 = .ok (.goto 68, 3) := by decide +kernel
theorem dX5_take_76 : decode cX5_take 76 = .ok (.aload_n 0, 1) := by decide +kernel
theorem dX5_take_77 : decode cX5_take 77 = .ok (.iload_n 2, 1) := by decide +kernel
theorem dX5_take_78 : decode cX5_take 78 = .ok (.bipush 109, 2) := by decide +kernel
theorem dX5_take_80 : decode cX5_take 80 = .ok (.if_icmp .ne 7, 3) := by decide +kernel
theorem dX5_take_83 : decode cX5_take 83 = .ok (.iconst 4, 1) := by decide +kernel
theorem dX5_take_84 : decode cX5_take 84 = .ok (.goto 27, 3) := by decide +kernel
theorem dX5_take_87 : decode cX5_take 87 = .ok (.iload_n 2, 1) := by decide +kernel
theorem dX5_take_88 : decode cX5_take 88 = .ok (.bipush 103, 2) := by decide +kernel
theorem dX5_take_90 : decode cX5_take 90 = .ok (.if_icmp .ne 8, 3) := by decide +kernel
theorem dX5_take_93 : decode cX5_take 93 = .ok (.bipush 9, 2) := by decide +kernel
theorem dX5_take_95 : decode cX5_take 95 = .ok (.goto 16, 3) := by decide +kernel
theorem dX5_take_98 : decode cX5_take 98 = .ok (.iload_n 2, 1) := by decide +kernel
theorem dX5_take_99 : decode cX5_take 99 = .ok (.bipush 118, 2) := by decide +kernel
theorem dX5_take_101 : decode cX5_take 101 = .ok (.if_icmp .ne 8, 3) := by decide +kernel
theorem dX5_take_104 : decode cX5_take 104 = .ok (.bipush 10, 2) := by decide +kernel
theorem dX5_take_106 : decode cX5_take 106 = .ok (.goto 5, 3) := by decide +kernel
theorem dX5_take_109 : decode cX5_take 109 = .ok (.bipush 11, 2) := by decide +kernel
theorem dX5_take_111 : decode cX5_take 111 = .ok (.putfield 16, 3) := by decide +kernel
theorem dX5_take_114 : decode cX5_take 114 = .ok (.goto 27, 3) := by decide +kernel
theorem dX5_take_117 : decode cX5_take 117 = .ok (.aload_n 0, 1) := by decide +kernel
theorem dX5_take_118 : decode cX5_take 118 = .ok (.aload_n 1, 1) := by decide +kernel
theorem dX5_take_119 : decode cX5_take 119 = .ok (.iload_n 3, 1) := by decide +kernel
theorem dX5_take_120 : decode cX5_take 120 = .ok (.invokevirtual 42, 3) := by decide +kernel
theorem dX5_take_123 : decode cX5_take 123 = .ok (.goto 18, 3) := by decide +kernel
theorem dX5_take_126 : decode cX5_take 126 = .ok (.aload_n 0, 1) := by decide +kernel
theorem dX5_take_127 : decode cX5_take 127 = .ok (.aload_n 1, 1) := by decide +kernel
theorem dX5_take_128 : decode cX5_take 128 = .ok (.iload_n 2, 1) := by decide +kernel
theorem dX5_take_129 : decode cX5_take 129 = .ok (.invokevirtual 46, 3) := by decide +kernel
theorem dX5_take_132 : decode cX5_take 132 = .ok (.goto 9, 3) := by decide +kernel
theorem dX5_take_135 : decode cX5_take 135 = .ok (.aload_n 0, 1) := by decide +kernel
theorem dX5_take_136 : decode cX5_take 136 = .ok (.aload_n 1, 1) := by decide +kernel
theorem dX5_take_137 : decode cX5_take 137 = .ok (.iload_n 3, 1) := by decide +kernel
theorem dX5_take_138 : decode cX5_take 138 = .ok (.invokevirtual 49, 3) := by decide +kernel
theorem dX5_take_141 : decode cX5_take 141 = .ok (.return_, 1) := by decide +kernel
def FX5_take (T : zT) (a0 : Nat) (p0 : Nat) (p1 : Int32) (h : zH) : Option zH := (zo h a0 5).bind fun _ => zJ (fun (h1 : zH) => some h1) (fun J2 => zJ (fun (u9 : Unit) => (FX5_takeOfMark T a0 p0 p1 h).bind fun h5 => J2 h5) (fun J3 => zJ (fun (x6 : Int32) => (FX5_takeSetting T a0 p0 x6 h).bind fun h9 => J2 h9) (fun J7 => (FX5_digitOf T p1 h).bind fun x11 => (zgi h a0 5 0).bind fun x12 => if x12 = 0 then ((zpv h a0 5 0 (.int 1)).bind fun h13 => J2 h13) else (if x12 = 1 then (J7 x11) else (if x12 = 2 then (J7 x11) else (if x12 = 3 then (zJ (fun (x14 : Int32) (x15 : Nat) => (zpv h x15 5 0 (.int x14)).bind fun h17 => J2 h17) (fun J16 => if p1 = 109 then (J16 4 a0) else (if p1 = 103 then (J16 9 a0) else (if p1 = 118 then (J16 10 a0) else (J16 11 a0))))) else (if x12 = 4 then (J3 ()) else (if x12 = 5 then (J3 ()) else (if x12 = 6 then (J3 ()) else (if x12 = 7 then (J3 ()) else (if x12 = 8 then (J3 ()) else (if x12 = 9 then (J7 x11) else (if x12 = 10 then (J7 x11) else ((FX5_takeOfLetter T a0 p0 x11 h).bind fun h19 => J2 h19))))))))))))))
set_option maxHeartbeats 4000000 in
set_option maxRecDepth 100000 in
theorem BX5_take {X : zX} (C : zC X cX5_take 4 RX5 "take" none 4 95) {al : Bool} {hi : Nat} {h : zH} {a0 : Nat} {p0 : Nat} {p1 : Int32} {r9 : zH} (hf : FX5_take (xT X) a0 p0 p1 h = some r9) : zW X 4 (zZ X al (none, hi, r9)) 0 0 al hi h 0 [(0, .ref a0), (1, .ref p0), (2, .int p1)] [] := by
  unfold FX5_take at hf
  obtain ⟨_, _, hf⟩ := zbind hf
  refine z_join (P := fun J => ∀ (h1 : zH), J h1 = some r9 → zW X 4 (zZ X al (none, hi, r9)) 0 0 al hi h1 141 [] []) hf ?_ ?_
  · intro h1 hf
    exact z_vreturn C dX5_take_141 (by cases hf; rfl)
  · intro J2 kJ2 hf
    refine z_join (P := fun J => ∀ (u9 : Unit), J u9 = some r9 → zW X 4 (zZ X al (none, hi, r9)) 0 0 al hi h 126 [(0, .ref a0), (1, .ref p0), (2, .int p1)] []) hf ?_ ?_
    · intro u9 hf
      refine z_aload_n C dX5_take_126 0 rfl rfl ?_
      refine z_aload_n C dX5_take_127 1 rfl rfl ?_
      refine z_iload_n C dX5_take_128 2 rfl rfl ?_
      obtain ⟨h5, g4, hf⟩ := zbind hf
      refine z_callV (kc' := 0) (ks' := 0) C (MX5_takeOfMark (xl X) (xD X) (xT X) (xlo X) al hi g4) (OX5_takeOfMark g4) rfl cw_X5_46 yv_X5_takeOfMark dX5_take_129 rfl (by decide) ⟨rfl, rfl⟩ (Nat.le_of_ble_eq_true rfl) (st := []) rfl ?_
      refine z_goto (tgt := 141) C dX5_take_132 (by decide) ?_
      refine z_sub [] rfl ?_
      exact kJ2 _ hf
    · intro J3 kJ3 hf
      refine z_join (P := fun J => ∀ (x6 : Int32), J x6 = some r9 → zW X 4 (zZ X al (none, hi, r9)) 0 0 al hi h 117 [(0, .ref a0), (1, .ref p0), (3, .int x6)] []) hf ?_ ?_
      · intro x6 hf
        refine z_aload_n C dX5_take_117 0 rfl rfl ?_
        refine z_aload_n C dX5_take_118 1 rfl rfl ?_
        refine z_iload_n C dX5_take_119 2 rfl rfl ?_
        obtain ⟨h9, g8, hf⟩ := zbind hf
        refine z_callV (kc' := 0) (ks' := 0) C (MX5_takeSetting (xl X) (xD X) (xT X) (xlo X) al hi g8) (OX5_takeSetting g8) rfl cw_X5_42 yv_X5_takeSetting dX5_take_120 rfl (by decide) ⟨rfl, rfl⟩ (Nat.le_of_ble_eq_true rfl) (st := []) rfl ?_
        refine z_goto (tgt := 141) C dX5_take_123 (by decide) ?_
        refine z_sub [] rfl ?_
        exact kJ2 _ hf
      · intro J7 kJ7 hf
        refine z_iload_n C dX5_take_0 2 rfl rfl ?_
        obtain ⟨x11, g10, hf⟩ := zbind hf
        refine z_callS (kc' := 0) (ks' := 0) C (MX5_digitOf (xl X) (xD X) (xT X) (xlo X) al hi g10) cw_X5_20 ys_X5_digitOf dX5_take_1 rfl (by decide) ⟨rfl, rfl⟩ (Nat.le_of_ble_eq_true rfl) (st := []) rfl ?_
        refine z_istore_n C dX5_take_4 rfl (by decide) (lv' := [(3, .int x11), (0, .ref a0), (1, .ref p0), (2, .int p1)]) rfl ?_
        refine z_aload_n C dX5_take_5 1 rfl rfl ?_
        refine z_getI C fl_X5_16 dX5_take_6 hf (fun x12 hf => ?_)
        refine z_ite hf (fun c hf => ?_) (fun c0 hf => ?_)
        · refine z_tswIn (k := 0) (off := 59) (tgt := 68) C c dX5_take_9 (by decide) (by decide) ?_
          refine z_aload_n C dX5_take_68 1 rfl rfl ?_
          refine z_iconst C (v := 1) dX5_take_69 (by decide) ?_
          refine z_put C fl_X5_16 dX5_take_70 rfl rfl hf (fun h13 hf => ?_)
          refine z_goto (tgt := 141) C dX5_take_73 (by decide) ?_
          refine z_sub [] rfl ?_
          exact kJ2 _ hf
        · refine z_ite hf (fun c hf => ?_) (fun c1 hf => ?_)
          · refine z_tswIn (k := 1) (off := 108) (tgt := 117) C c dX5_take_9 (by decide) (by decide) ?_
            refine z_sub [1, 2, 0] rfl ?_
            exact kJ7 _ hf
          · refine z_ite hf (fun c hf => ?_) (fun c2 hf => ?_)
            · refine z_tswIn (k := 2) (off := 108) (tgt := 117) C c dX5_take_9 (by decide) (by decide) ?_
              refine z_sub [1, 2, 0] rfl ?_
              exact kJ7 _ hf
            · refine z_ite hf (fun c hf => ?_) (fun c3 hf => ?_)
              · refine z_tswIn (k := 3) (off := 67) (tgt := 76) C c dX5_take_9 (by decide) (by decide) ?_
                refine z_join (P := fun J => ∀ (x14 : Int32) (x15 : Nat), J x14 x15 = some r9 → zW X 4 (zZ X al (none, hi, r9)) 0 0 al hi h 111 [] [.int x14, .ref x15]) hf ?_ ?_
                · intro x14 x15 hf
                  refine z_put C fl_X5_16 dX5_take_111 rfl rfl hf (fun h17 hf => ?_)
                  refine z_goto (tgt := 141) C dX5_take_114 (by decide) ?_
                  exact kJ2 _ hf
                · intro J16 kJ16 hf
                  refine z_aload_n C dX5_take_76 1 rfl rfl ?_
                  refine z_iload_n C dX5_take_77 3 rfl rfl ?_
                  refine z_bipush C (v := 109) dX5_take_78 (by decide) ?_
                  refine z_icmp_ne (tgt := 87) C dX5_take_80 (by decide) hf (fun hf => ?_) (fun hf => ?_)
                  · refine z_iload_n C dX5_take_87 3 rfl rfl ?_
                    refine z_bipush C (v := 103) dX5_take_88 (by decide) ?_
                    refine z_icmp_ne (tgt := 98) C dX5_take_90 (by decide) hf (fun hf => ?_) (fun hf => ?_)
                    · refine z_iload_n C dX5_take_98 3 rfl rfl ?_
                      refine z_bipush C (v := 118) dX5_take_99 (by decide) ?_
                      refine z_icmp_ne (tgt := 109) C dX5_take_101 (by decide) hf (fun hf => ?_) (fun hf => ?_)
                      · refine z_bipush C (v := 11) dX5_take_109 (by decide) ?_
                        refine z_sub [] rfl ?_
                        exact kJ16 _ _ hf
                      · refine z_bipush C (v := 10) dX5_take_104 (by decide) ?_
                        refine z_goto (tgt := 111) C dX5_take_106 (by decide) ?_
                        refine z_sub [] rfl ?_
                        exact kJ16 _ _ hf
                    · refine z_bipush C (v := 9) dX5_take_93 (by decide) ?_
                      refine z_goto (tgt := 111) C dX5_take_95 (by decide) ?_
                      refine z_sub [] rfl ?_
                      exact kJ16 _ _ hf
                  · refine z_iconst C (v := 4) dX5_take_83 (by decide) ?_
                    refine z_goto (tgt := 111) C dX5_take_84 (by decide) ?_
                    refine z_sub [] rfl ?_
                    exact kJ16 _ _ hf
              · refine z_ite hf (fun c hf => ?_) (fun c4 hf => ?_)
                · refine z_tswIn (k := 4) (off := 117) (tgt := 126) C c dX5_take_9 (by decide) (by decide) ?_
                  refine z_sub [1, 2, 3] rfl ?_
                  exact kJ3 _ hf
                · refine z_ite hf (fun c hf => ?_) (fun c5 hf => ?_)
                  · refine z_tswIn (k := 5) (off := 117) (tgt := 126) C c dX5_take_9 (by decide) (by decide) ?_
                    refine z_sub [1, 2, 3] rfl ?_
                    exact kJ3 _ hf
                  · refine z_ite hf (fun c hf => ?_) (fun c6 hf => ?_)
                    · refine z_tswIn (k := 6) (off := 117) (tgt := 126) C c dX5_take_9 (by decide) (by decide) ?_
                      refine z_sub [1, 2, 3] rfl ?_
                      exact kJ3 _ hf
                    · refine z_ite hf (fun c hf => ?_) (fun c7 hf => ?_)
                      · refine z_tswIn (k := 7) (off := 117) (tgt := 126) C c dX5_take_9 (by decide) (by decide) ?_
                        refine z_sub [1, 2, 3] rfl ?_
                        exact kJ3 _ hf
                      · refine z_ite hf (fun c hf => ?_) (fun c8 hf => ?_)
                        · refine z_tswIn (k := 8) (off := 117) (tgt := 126) C c dX5_take_9 (by decide) (by decide) ?_
                          refine z_sub [1, 2, 3] rfl ?_
                          exact kJ3 _ hf
                        · refine z_ite hf (fun c hf => ?_) (fun c9 hf => ?_)
                          · refine z_tswIn (k := 9) (off := 108) (tgt := 117) C c dX5_take_9 (by decide) (by decide) ?_
                            refine z_sub [1, 2, 0] rfl ?_
                            exact kJ7 _ hf
                          · refine z_ite hf (fun c hf => ?_) (fun c10 hf => ?_)
                            · refine z_tswIn (k := 10) (off := 108) (tgt := 117) C c dX5_take_9 (by decide) (by decide) ?_
                              refine z_sub [1, 2, 0] rfl ?_
                              exact kJ7 _ hf
                            · refine z_tswOut (tgt := 135) C dX5_take_9 (by have e0 := z_ne (i := 0) (by decide) c0; have e1 := z_ne (i := 1) (by decide) c1; have e2 := z_ne (i := 2) (by decide) c2; have e3 := z_ne (i := 3) (by decide) c3; have e4 := z_ne (i := 4) (by decide) c4; have e5 := z_ne (i := 5) (by decide) c5; have e6 := z_ne (i := 6) (by decide) c6; have e7 := z_ne (i := 7) (by decide) c7; have e8 := z_ne (i := 8) (by decide) c8; have e9 := z_ne (i := 9) (by decide) c9; have e10 := z_ne (i := 10) (by decide) c10; omega) (by decide) ?_
                              refine z_aload_n C dX5_take_135 1 rfl rfl ?_
                              refine z_aload_n C dX5_take_136 2 rfl rfl ?_
                              refine z_iload_n C dX5_take_137 0 rfl rfl ?_
                              obtain ⟨h19, g18, hf⟩ := zbind hf
                              refine z_callV (kc' := 0) (ks' := 0) C (MX5_takeOfLetter (xl X) (xD X) (xT X) (xlo X) al hi g18) (OX5_takeOfLetter g18) rfl cw_X5_49 yv_X5_takeOfLetter dX5_take_138 rfl (by decide) ⟨rfl, rfl⟩ (Nat.le_of_ble_eq_true rfl) (st := []) rfl ?_
                              refine z_sub [] rfl ?_
                              exact kJ2 _ hf
theorem MX5_take (l : Launch) (D : va_G) (T : zT) (lo : Nat) (al : Bool) (hi : Nat) {h : zH} {a0 : Nat} {p0 : Nat} {p1 : Int32} {h9 : zH} (hf : FX5_take T a0 p0 p1 h = some h9) : zM l yX5_take (.code yX5_take cX5_take 4 none :: TW) ({ frames := 4, cells := 0, slots := 0, locals := 95 } : Room) D T lo al [.ref a0, .ref p0, .int p1] hi h (none, hi, h9) :=
  z_enter (own := RX5) (nm := "take") (lv := [(0, .ref a0), (1, .ref p0), (2, .int p1)]) (by decide +kernel) rfl rfl (Nat.le_of_ble_eq_true rfl) rfl (fun _ _ _ _ _ _ _ _ C => BX5_take C hf)
theorem OX5_take {T : zT} {h : zH} {a0 : Nat} {p0 : Nat} {p1 : Int32} {r9 : zH} (hf : FX5_take T a0 p0 p1 h = some r9) : ∃ fs, h a0 = some (.inr (5, fs)) := by
  obtain ⟨_, h1, _⟩ := zbind hf
  exact zo_obj h1
theorem dX2_goTo_0 : decode cX2_goTo 0 = .ok (.aload_n 0, 1) := by decide +kernel
theorem dX2_goTo_1 : decode cX2_goTo 1 = .ok (.getfield 26, 3) := by decide +kernel
theorem dX2_goTo_4 : decode cX2_goTo 4 = .ok (.ifCond .ne 7, 3) := by decide +kernel
theorem dX2_goTo_7 : decode cX2_goTo 7 = .ok (.iconst 1, 1) := by decide +kernel
theorem dX2_goTo_8 : decode cX2_goTo 8 = .ok (.goto 4, 3) := by decide +kernel
theorem dX2_goTo_11 : decode cX2_goTo 11 = .ok (.iconst 0, 1) := by decide +kernel
theorem dX2_goTo_12 : decode cX2_goTo 12 = .ok (.istore 4, 2) := by decide +kernel
theorem dX2_goTo_14 : decode cX2_goTo 14 = .ok (.iload 4, 2) := by decide +kernel
theorem dX2_goTo_16 : decode cX2_goTo 16 = .ok (.ifCond .ne 15, 3) := by decide +kernel
theorem dX2_goTo_19 : decode cX2_goTo 19 = .ok (.iload_n 1, 1) := by decide +kernel
theorem dX2_goTo_20 : decode cX2_goTo 20 = .ok (.aload_n 0, 1) := by decide +kernel
theorem dX2_goTo_21 : decode cX2_goTo 21 = .ok (.getfield 81, 3) := by decide +kernel
theorem dX2_goTo_24 : decode cX2_goTo 24 = .ok (.if_icmp .ne 7, 3) := by decide +kernel
theorem dX2_goTo_27 : decode cX2_goTo 27 = .ok (.iconst 1, 1) := by decide +kernel
theorem dX2_goTo_28 : decode cX2_goTo 28 = .ok (.goto 4, 3) := by decide +kernel
theorem dX2_goTo_31 : decode cX2_goTo 31 = .ok (.iconst 0, 1) := by decide +kernel
theorem dX2_goTo_32 : decode cX2_goTo 32 = .ok (.istore 5, 2) := by decide +kernel
theorem dX2_goTo_34 : decode cX2_goTo 34 = .ok (.iload 4, 2) := by decide +kernel
theorem dX2_goTo_36 : decode cX2_goTo 36 = .ok (.ifCond .ne 21, 3) := by decide +kernel
theorem dX2_goTo_39 : decode cX2_goTo 39 = .ok (.iload 5, 2) := by decide +kernel
theorem dX2_goTo_41 : decode cX2_goTo 41 = .ok (.ifCond .ne 16, 3) := by decide +kernel
theorem dX2_goTo_44 : decode cX2_goTo 44 = .ok (.aload_n 0, 1) := by decide +kernel
theorem dX2_goTo_45 : decode cX2_goTo 45 = .ok (.getfield 84, 3) := by decide +kernel
theorem dX2_goTo_48 : decode cX2_goTo 48 = .ok (.bipush 26, 2) := by decide +kernel
theorem dX2_goTo_50 : decode cX2_goTo 50 = .ok (.if_icmp .ne 7, 3) := by decide +kernel
theorem dX2_goTo_53 : decode cX2_goTo 53 = .ok (.iconst 1, 1) := by decide +kernel
theorem dX2_goTo_54 : decode cX2_goTo 54 = .ok (.goto 4, 3) := by decide +kernel
theorem dX2_goTo_57 : decode cX2_goTo 57 = .ok (.iconst 0, 1) := by decide +kernel
theorem dX2_goTo_58 : decode cX2_goTo 58 = .ok (.istore 6, 2) := by decide +kernel
theorem dX2_goTo_60 : decode cX2_goTo 60 = .ok (.iload 6, 2) := by decide +kernel
theorem dX2_goTo_62 : decode cX2_goTo 62 = .ok (.ifCond .eq 16, 3) := by decide +kernel
theorem dX2_goTo_65 : decode cX2_goTo 65 = .ok (.aload_n 0, 1) := by decide +kernel
theorem dX2_goTo_66 : decode cX2_goTo 66 = .ok (.dup, 1) := by decide +kernel
theorem dX2_goTo_67 : decode cX2_goTo 67 = .ok (.getfield 33, 3) := by decide +kernel
theorem dX2_goTo_70 : decode cX2_goTo 70 = .ok (.iconst 1, 1) := by decide +kernel
theorem dX2_goTo_71 : decode cX2_goTo 71 = .ok (.isub, 1) := by decide +kernel
theorem dX2_goTo_72 : decode cX2_goTo 72 = .ok (.putfield 33, 3) := by decide +kernel
theorem dX2_goTo_75 : decode cX2_goTo 75 = .ok (.goto 45, 3) := by decide +kernel
theorem dX2_goTo_78 : decode cX2_goTo 78 = .ok (.iload 5, 2) := by decide +kernel
theorem dX2_goTo_80 : decode cX2_goTo 80 = .ok (.ifCond .eq 15, 3) := by decide +kernel
theorem dX2_goTo_83 : decode cX2_goTo 83 = .ok (.iload_n 2, 1) := by decide +kernel
theorem dX2_goTo_84 : decode cX2_goTo 84 = .ok (.aload_n 0, 1) := by decide +kernel
theorem dX2_goTo_85 : decode cX2_goTo 85 = .ok (.getfield 87, 3) := by decide +kernel
theorem dX2_goTo_88 : decode cX2_goTo 88 = .ok (.isub, 1) := by decide +kernel
theorem dX2_goTo_89 : decode cX2_goTo 89 = .ok (.iconst 1, 1) := by decide +kernel
theorem dX2_goTo_90 : decode cX2_goTo 90 = .ok (.isub, 1) := by decide +kernel
theorem dX2_goTo_91 : decode cX2_goTo 91 = .ok (.iload_n 3, 1) := by decide +kernel
theorem dX2_goTo_92 : decode cX2_goTo 92 = .ok (.if_icmp .lt 28, 3) := by decide +kernel
theorem dX2_goTo_95 : decode cX2_goTo 95 = .ok (.aload_n 0, 1) := by decide +kernel
theorem dX2_goTo_96 : decode cX2_goTo 96 = .ok (.getfield 23, 3) := by decide +kernel
theorem dX2_goTo_99 : decode cX2_goTo 99 = .ok (.aload_n 0, 1) := by decide +kernel
theorem dX2_goTo_100 : decode cX2_goTo 100 = .ok (.getfield 26, 3) := by decide +kernel
theorem dX2_goTo_103 : decode cX2_goTo 103 = .ok (.aload_n 0, 1) := by decide +kernel
theorem dX2_goTo_104 : decode cX2_goTo 104 = .ok (.getfield 33, 3) := by decide +kernel
theorem dX2_goTo_107 : decode cX2_goTo 107 = .ok (.invokevirtual 77, 3) := by decide +kernel
theorem dX2_goTo_110 : decode cX2_goTo 110 = .ok (.aload_n 0, 1) := by decide +kernel
theorem dX2_goTo_111 : decode cX2_goTo 111 = .ok (.dup, 1) := by decide +kernel
theorem dX2_goTo_112 : decode cX2_goTo 112 = .ok (.getfield 26, 3) := by decide +kernel
theorem dX2_goTo_115 : decode cX2_goTo 115 = .ok (.iconst 1, 1) := by decide +kernel
theorem dX2_goTo_116 : decode cX2_goTo 116 = .ok (.iadd, 1) := by decide +kernel
theorem dX2_goTo_117 : decode cX2_goTo 117 = .ok (.putfield 26, 3) := by decide +kernel
theorem dX2_goTo_120 : decode cX2_goTo 120 = .ok (.aload_n 0, 1) := by decide +kernel
theorem dX2_goTo_121 : decode cX2_goTo 121 = .ok (.iload_n 1, 1) := by decide +kernel
theorem dX2_goTo_122 : decode cX2_goTo 122 = .ok (.putfield 81, 3) := by decide +kernel
theorem dX2_goTo_125 : decode cX2_goTo 125 = .ok (.aload_n 0, 1) := by decide +kernel
theorem dX2_goTo_126 : decode cX2_goTo 126 = .ok (.iload_n 2, 1) := by decide +kernel
theorem dX2_goTo_127 : decode cX2_goTo 127 = .ok (.putfield 87, 3) := by decide +kernel
theorem dX2_goTo_130 : decode cX2_goTo 130 = .ok (.return_, 1) := by decide +kernel
def FX2_goTo (T : zT) (a0 : Nat) (p0 : Int32) (p1 : Int32) (p2 : Int32) (h : zH) : Option zH := (zo h a0 2).bind fun _ => zJ (fun (x1 : Int32) => zJ (fun (x3 : Int32) (x4 : Int32) => zJ (fun (x6 : Int32) (x7 : Int32) => zJ (fun (h9 : zH) => (zpv h9 a0 2 6 (.int p0)).bind fun h11 => (zpv h11 a0 2 7 (.int p1)).bind fun h12 => some h12) (fun J10 => if x7 = 0 then (zJ (fun (u9 : Unit) => (zgr h a0 2 4).bind fun x14 => (zgi h a0 2 0).bind fun x15 => (zgi h a0 2 5).bind fun x16 => (FX1_put T x14 x15 x16 h).bind fun h18 => (zgi h18 a0 2 0).bind fun x19 => (zpv h18 a0 2 0 (.int (x19 + 1))).bind fun h20 => J10 h20) (fun J13 => if x6 = 0 then (J13 ()) else ((zgi h a0 2 7).bind fun x21 => if ((p1 - x21) - 1) < p2 then (J10 h) else (J13 ())))) else ((zgi h a0 2 5).bind fun x22 => (zpv h a0 2 5 (.int (x22 - 1))).bind fun h23 => J10 h23))) (fun J8 => zJ (fun (x24 : Int32) => J8 x24 0) (fun J25 => if x3 = 0 then (if x4 = 0 then ((zgi h a0 2 8).bind fun x26 => if x26 = 26 then (J8 x4 1) else (J25 x4)) else (J25 x4)) else (J25 x4)))) (fun J5 => zJ (fun (x27 : Int32) => J5 x27 0) (fun J28 => if x1 = 0 then ((zgi h a0 2 6).bind fun x29 => if p0 = x29 then (J5 x1 1) else (J28 x1)) else (J28 x1)))) (fun J2 => (zgi h a0 2 0).bind fun x30 => if x30 = 0 then (J2 1) else (J2 0))
set_option maxHeartbeats 4000000 in
set_option maxRecDepth 100000 in
theorem BX2_goTo {X : zX} (C : zC X cX2_goTo 7 RX2 "goTo" none 1 22) {al : Bool} {hi : Nat} {h : zH} {a0 : Nat} {p0 : Int32} {p1 : Int32} {p2 : Int32} {r9 : zH} (hf : FX2_goTo (xT X) a0 p0 p1 p2 h = some r9) : zW X 7 (zZ X al (none, hi, r9)) 0 0 al hi h 0 [(0, .ref a0), (1, .int p0), (2, .int p1), (3, .int p2)] [] := by
  unfold FX2_goTo at hf
  obtain ⟨_, _, hf⟩ := zbind hf
  refine z_join (P := fun J => ∀ (x1 : Int32), J x1 = some r9 → zW X 7 (zZ X al (none, hi, r9)) 0 0 al hi h 12 [(0, .ref a0), (1, .int p0), (2, .int p1), (3, .int p2)] [.int x1]) hf ?_ ?_
  · intro x1 hf
    refine z_join (P := fun J => ∀ (x3 : Int32) (x4 : Int32), J x3 x4 = some r9 → zW X 7 (zZ X al (none, hi, r9)) 0 0 al hi h 32 [(0, .ref a0), (1, .int p0), (2, .int p1), (3, .int p2), (4, .int x3)] [.int x4]) hf ?_ ?_
    · intro x3 x4 hf
      refine z_join (P := fun J => ∀ (x6 : Int32) (x7 : Int32), J x6 x7 = some r9 → zW X 7 (zZ X al (none, hi, r9)) 0 0 al hi h 58 [(0, .ref a0), (1, .int p0), (2, .int p1), (3, .int p2), (5, .int x6)] [.int x7]) hf ?_ ?_
      · intro x6 x7 hf
        refine z_join (P := fun J => ∀ (h9 : zH), J h9 = some r9 → zW X 7 (zZ X al (none, hi, r9)) 0 0 al hi h9 120 [(0, .ref a0), (1, .int p0), (2, .int p1)] []) hf ?_ ?_
        · intro h9 hf
          refine z_aload_n C dX2_goTo_120 0 rfl rfl ?_
          refine z_iload_n C dX2_goTo_121 1 rfl rfl ?_
          refine z_put C fl_X2_81 dX2_goTo_122 rfl rfl hf (fun h11 hf => ?_)
          refine z_aload_n C dX2_goTo_125 0 rfl rfl ?_
          refine z_iload_n C dX2_goTo_126 2 rfl rfl ?_
          refine z_put C fl_X2_87 dX2_goTo_127 rfl rfl hf (fun h12 hf => ?_)
          exact z_vreturn C dX2_goTo_130 (by cases hf; rfl)
        · intro J10 kJ10 hf
          refine z_istore C dX2_goTo_58 (by decide) (lv' := [(6, .int x7), (0, .ref a0), (1, .int p0), (2, .int p1), (3, .int p2), (5, .int x6)]) rfl ?_
          refine z_iload C dX2_goTo_60 0 rfl ?_
          refine z_if_eq (tgt := 78) C dX2_goTo_62 (by decide) hf (fun hf => ?_) (fun hf => ?_)
          · refine z_join (P := fun J => ∀ (u9 : Unit), J u9 = some r9 → zW X 7 (zZ X al (none, hi, r9)) 0 0 al hi h 95 [(0, .ref a0), (1, .int p0), (2, .int p1)] []) hf ?_ ?_
            · intro u9 hf
              refine z_aload_n C dX2_goTo_95 0 rfl rfl ?_
              refine z_getR C fl_X2_23 dX2_goTo_96 hf (fun x14 hf => ?_)
              refine z_aload_n C dX2_goTo_99 0 rfl rfl ?_
              refine z_getI C fl_X2_26 dX2_goTo_100 hf (fun x15 hf => ?_)
              refine z_aload_n C dX2_goTo_103 0 rfl rfl ?_
              refine z_getI C fl_X2_33 dX2_goTo_104 hf (fun x16 hf => ?_)
              obtain ⟨h18, g17, hf⟩ := zbind hf
              refine z_callV (kc' := 0) (ks' := 0) C (MX1_put (xl X) (xD X) (xT X) (xlo X) al hi g17) (OX1_put g17) rfl cw_X2_77 yv_X1_put dX2_goTo_107 rfl (by decide) ⟨rfl, rfl⟩ (Nat.le_of_ble_eq_true rfl) (st := []) rfl ?_
              refine z_aload_n C dX2_goTo_110 0 rfl rfl ?_
              refine z_dup C dX2_goTo_111 rfl ?_
              refine z_getI C fl_X2_26 dX2_goTo_112 hf (fun x19 hf => ?_)
              refine z_iconst C (v := 1) dX2_goTo_115 (by decide) ?_
              refine z_iadd C dX2_goTo_116 ?_
              refine z_put C fl_X2_26 dX2_goTo_117 rfl rfl hf (fun h20 hf => ?_)
              exact kJ10 _ hf
            · intro J13 kJ13 hf
              refine z_iload C dX2_goTo_78 5 rfl ?_
              refine z_if_eq (tgt := 95) C dX2_goTo_80 (by decide) hf (fun hf => ?_) (fun hf => ?_)
              · refine z_sub [1, 2, 3] rfl ?_
                exact kJ13 _ hf
              · refine z_iload_n C dX2_goTo_83 3 rfl rfl ?_
                refine z_aload_n C dX2_goTo_84 1 rfl rfl ?_
                refine z_getI C fl_X2_87 dX2_goTo_85 hf (fun x21 hf => ?_)
                refine z_isub C dX2_goTo_88 ?_
                refine z_iconst C (v := 1) dX2_goTo_89 (by decide) ?_
                refine z_isub C dX2_goTo_90 ?_
                refine z_iload_n C dX2_goTo_91 4 rfl rfl ?_
                refine z_icmp_lt (tgt := 120) C dX2_goTo_92 (by decide) hf (fun hf => ?_) (fun hf => ?_)
                · refine z_sub [1, 2, 3] rfl ?_
                  exact kJ10 _ hf
                · refine z_sub [1, 2, 3] rfl ?_
                  exact kJ13 _ hf
          · refine z_aload_n C dX2_goTo_65 1 rfl rfl ?_
            refine z_dup C dX2_goTo_66 rfl ?_
            refine z_getI C fl_X2_33 dX2_goTo_67 hf (fun x22 hf => ?_)
            refine z_iconst C (v := 1) dX2_goTo_70 (by decide) ?_
            refine z_isub C dX2_goTo_71 ?_
            refine z_put C fl_X2_33 dX2_goTo_72 rfl rfl hf (fun h23 hf => ?_)
            refine z_goto (tgt := 120) C dX2_goTo_75 (by decide) ?_
            refine z_sub [1, 2, 3] rfl ?_
            exact kJ10 _ hf
      · intro J8 kJ8 hf
        refine z_join (P := fun J => ∀ (x24 : Int32), J x24 = some r9 → zW X 7 (zZ X al (none, hi, r9)) 0 0 al hi h 57 [(0, .ref a0), (1, .int p0), (2, .int p1), (3, .int p2), (5, .int x24)] []) hf ?_ ?_
        · intro x24 hf
          refine z_iconst C (v := 0) dX2_goTo_57 (by decide) ?_
          exact kJ8 _ _ hf
        · intro J25 kJ25 hf
          refine z_istore C dX2_goTo_32 (by decide) (lv' := [(5, .int x4), (0, .ref a0), (1, .int p0), (2, .int p1), (3, .int p2), (4, .int x3)]) rfl ?_
          refine z_iload C dX2_goTo_34 5 rfl ?_
          refine z_if_ne (tgt := 57) C dX2_goTo_36 (by decide) hf (fun hf => ?_) (fun hf => ?_)
          · refine z_sub [1, 2, 3, 4, 0] rfl ?_
            exact kJ25 _ hf
          · refine z_iload C dX2_goTo_39 0 rfl ?_
            refine z_if_ne (tgt := 57) C dX2_goTo_41 (by decide) hf (fun hf => ?_) (fun hf => ?_)
            · refine z_sub [1, 2, 3, 4, 0] rfl ?_
              exact kJ25 _ hf
            · refine z_aload_n C dX2_goTo_44 1 rfl rfl ?_
              refine z_getI C fl_X2_84 dX2_goTo_45 hf (fun x26 hf => ?_)
              refine z_bipush C (v := 26) dX2_goTo_48 (by decide) ?_
              refine z_icmp_ne (tgt := 57) C dX2_goTo_50 (by decide) hf (fun hf => ?_) (fun hf => ?_)
              · refine z_sub [1, 2, 3, 4, 0] rfl ?_
                exact kJ25 _ hf
              · refine z_iconst C (v := 1) dX2_goTo_53 (by decide) ?_
                refine z_goto (tgt := 58) C dX2_goTo_54 (by decide) ?_
                refine z_sub [1, 2, 3, 4, 0] rfl ?_
                exact kJ8 _ _ hf
    · intro J5 kJ5 hf
      refine z_join (P := fun J => ∀ (x27 : Int32), J x27 = some r9 → zW X 7 (zZ X al (none, hi, r9)) 0 0 al hi h 31 [(0, .ref a0), (1, .int p0), (2, .int p1), (3, .int p2), (4, .int x27)] []) hf ?_ ?_
      · intro x27 hf
        refine z_iconst C (v := 0) dX2_goTo_31 (by decide) ?_
        exact kJ5 _ _ hf
      · intro J28 kJ28 hf
        refine z_istore C dX2_goTo_12 (by decide) (lv' := [(4, .int x1), (0, .ref a0), (1, .int p0), (2, .int p1), (3, .int p2)]) rfl ?_
        refine z_iload C dX2_goTo_14 0 rfl ?_
        refine z_if_ne (tgt := 31) C dX2_goTo_16 (by decide) hf (fun hf => ?_) (fun hf => ?_)
        · refine z_sub [1, 2, 3, 4, 0] rfl ?_
          exact kJ28 _ hf
        · refine z_iload_n C dX2_goTo_19 2 rfl rfl ?_
          refine z_aload_n C dX2_goTo_20 1 rfl rfl ?_
          refine z_getI C fl_X2_81 dX2_goTo_21 hf (fun x29 hf => ?_)
          refine z_icmp_ne (tgt := 31) C dX2_goTo_24 (by decide) hf (fun hf => ?_) (fun hf => ?_)
          · refine z_sub [1, 2, 3, 4, 0] rfl ?_
            exact kJ28 _ hf
          · refine z_iconst C (v := 1) dX2_goTo_27 (by decide) ?_
            refine z_goto (tgt := 32) C dX2_goTo_28 (by decide) ?_
            refine z_sub [1, 2, 3, 4, 0] rfl ?_
            exact kJ5 _ _ hf
  · intro J2 kJ2 hf
    refine z_aload_n C dX2_goTo_0 0 rfl rfl ?_
    refine z_getI C fl_X2_26 dX2_goTo_1 hf (fun x30 hf => ?_)
    refine z_if_ne (tgt := 11) C dX2_goTo_4 (by decide) hf (fun hf => ?_) (fun hf => ?_)
    · refine z_iconst C (v := 0) dX2_goTo_11 (by decide) ?_
      exact kJ2 _ hf
    · refine z_iconst C (v := 1) dX2_goTo_7 (by decide) ?_
      refine z_goto (tgt := 12) C dX2_goTo_8 (by decide) ?_
      exact kJ2 _ hf
theorem MX2_goTo (l : Launch) (D : va_G) (T : zT) (lo : Nat) (al : Bool) (hi : Nat) {h : zH} {a0 : Nat} {p0 : Int32} {p1 : Int32} {p2 : Int32} {h9 : zH} (hf : FX2_goTo T a0 p0 p1 p2 h = some h9) : zM l yX2_goTo (.code yX2_goTo cX2_goTo 7 none :: TW) ({ frames := 1, cells := 0, slots := 0, locals := 22 } : Room) D T lo al [.ref a0, .int p0, .int p1, .int p2] hi h (none, hi, h9) :=
  z_enter (own := RX2) (nm := "goTo") (lv := [(0, .ref a0), (1, .int p0), (2, .int p1), (3, .int p2)]) (by decide +kernel) rfl rfl (Nat.le_of_ble_eq_true rfl) rfl (fun _ _ _ _ _ _ _ _ C => BX2_goTo C hf)
theorem OX2_goTo {T : zT} {h : zH} {a0 : Nat} {p0 : Int32} {p1 : Int32} {p2 : Int32} {r9 : zH} (hf : FX2_goTo T a0 p0 p1 p2 h = some r9) : ∃ fs, h a0 = some (.inr (2, fs)) := by
  obtain ⟨_, h1, _⟩ := zbind hf
  exact zo_obj h1
theorem dX2_takeSign_0 : decode cX2_takeSign 0 = .ok (.aload_n 0, 1) := by decide +kernel
theorem dX2_takeSign_1 : decode cX2_takeSign 1 = .ok (.getfield 20, 3) := by decide +kernel
theorem dX2_takeSign_4 : decode cX2_takeSign 4 = .ok (.aload_n 0, 1) := by decide +kernel
theorem dX2_takeSign_5 : decode cX2_takeSign 5 = .ok (.getfield 33, 3) := by decide +kernel
theorem dX2_takeSign_8 : decode cX2_takeSign 8 = .ok (.iload_n 1, 1) := by decide +kernel
theorem dX2_takeSign_9 : decode cX2_takeSign 9 = .ok (.invokevirtual 77, 3) := by decide +kernel
theorem dX2_takeSign_12 : decode cX2_takeSign 12 = .ok (.aload_n 0, 1) := by decide +kernel
theorem dX2_takeSign_13 : decode cX2_takeSign 13 = .ok (.dup, 1) := by decide +kernel
theorem dX2_takeSign_14 : decode cX2_takeSign 14 = .ok (.getfield 33, 3) := by decide +kernel
theorem dX2_takeSign_17 : decode cX2_takeSign 17 = .ok (.iconst 1, 1) := by decide +kernel
theorem dX2_takeSign_18 : decode cX2_takeSign 18 = .ok (.iadd, 1) := by decide +kernel
theorem dX2_takeSign_19 : decode cX2_takeSign 19 = .ok (.putfield 33, 3) := by decide +kernel
theorem dX2_takeSign_22 : decode cX2_takeSign 22 = .ok (.aload_n 0, 1) := by decide +kernel
theorem dX2_takeSign_23 : decode cX2_takeSign 23 = .ok (.dup, 1) := by decide +kernel
theorem dX2_takeSign_24 : decode cX2_takeSign 24 = .ok (.getfield 30, 3) := by decide +kernel
theorem dX2_takeSign_27 : decode cX2_takeSign 27 = .ok (.iconst 1, 1) := by decide +kernel
theorem dX2_takeSign_28 : decode cX2_takeSign 28 = .ok (.iadd, 1) := by decide +kernel
theorem dX2_takeSign_29 : decode cX2_takeSign 29 = .ok (.putfield 30, 3) := by decide +kernel
theorem dX2_takeSign_32 : decode cX2_takeSign 32 = .ok (.aload_n 0, 1) := by decide +kernel
theorem dX2_takeSign_33 : decode cX2_takeSign 33 = .ok (.iload_n 1, 1) := by decide +kernel
theorem dX2_takeSign_34 : decode cX2_takeSign 34 = .ok (.putfield 84, 3) := by decide +kernel
theorem dX2_takeSign_37 : decode cX2_takeSign 37 = .ok (.return_, 1) := by decide +kernel
def FX2_takeSign (T : zT) (a0 : Nat) (p0 : Int32) (h : zH) : Option zH := (zo h a0 2).bind fun _ => (zgr h a0 2 3).bind fun x1 => (zgi h a0 2 5).bind fun x2 => (FX1_put T x1 x2 p0 h).bind fun h4 => (zgi h4 a0 2 5).bind fun x5 => (zpv h4 a0 2 5 (.int (x5 + 1))).bind fun h6 => (zgi h6 a0 2 1).bind fun x7 => (zpv h6 a0 2 1 (.int (x7 + 1))).bind fun h8 => (zpv h8 a0 2 8 (.int p0)).bind fun h9 => some h9
set_option maxHeartbeats 4000000 in
set_option maxRecDepth 100000 in
theorem BX2_takeSign {X : zX} (C : zC X cX2_takeSign 2 RX2 "takeSign" none 1 22) {al : Bool} {hi : Nat} {h : zH} {a0 : Nat} {p0 : Int32} {r9 : zH} (hf : FX2_takeSign (xT X) a0 p0 h = some r9) : zW X 2 (zZ X al (none, hi, r9)) 0 0 al hi h 0 [(0, .ref a0), (1, .int p0)] [] := by
  unfold FX2_takeSign at hf
  obtain ⟨_, _, hf⟩ := zbind hf
  refine z_aload_n C dX2_takeSign_0 0 rfl rfl ?_
  refine z_getR C fl_X2_20 dX2_takeSign_1 hf (fun x1 hf => ?_)
  refine z_aload_n C dX2_takeSign_4 0 rfl rfl ?_
  refine z_getI C fl_X2_33 dX2_takeSign_5 hf (fun x2 hf => ?_)
  refine z_iload_n C dX2_takeSign_8 1 rfl rfl ?_
  obtain ⟨h4, g3, hf⟩ := zbind hf
  refine z_callV (kc' := 0) (ks' := 0) C (MX1_put (xl X) (xD X) (xT X) (xlo X) al hi g3) (OX1_put g3) rfl cw_X2_77 yv_X1_put dX2_takeSign_9 rfl (by decide) ⟨rfl, rfl⟩ (Nat.le_of_ble_eq_true rfl) (st := []) rfl ?_
  refine z_aload_n C dX2_takeSign_12 0 rfl rfl ?_
  refine z_dup C dX2_takeSign_13 rfl ?_
  refine z_getI C fl_X2_33 dX2_takeSign_14 hf (fun x5 hf => ?_)
  refine z_iconst C (v := 1) dX2_takeSign_17 (by decide) ?_
  refine z_iadd C dX2_takeSign_18 ?_
  refine z_put C fl_X2_33 dX2_takeSign_19 rfl rfl hf (fun h6 hf => ?_)
  refine z_aload_n C dX2_takeSign_22 0 rfl rfl ?_
  refine z_dup C dX2_takeSign_23 rfl ?_
  refine z_getI C fl_X2_30 dX2_takeSign_24 hf (fun x7 hf => ?_)
  refine z_iconst C (v := 1) dX2_takeSign_27 (by decide) ?_
  refine z_iadd C dX2_takeSign_28 ?_
  refine z_put C fl_X2_30 dX2_takeSign_29 rfl rfl hf (fun h8 hf => ?_)
  refine z_aload_n C dX2_takeSign_32 0 rfl rfl ?_
  refine z_iload_n C dX2_takeSign_33 1 rfl rfl ?_
  refine z_put C fl_X2_84 dX2_takeSign_34 rfl rfl hf (fun h9 hf => ?_)
  exact z_vreturn C dX2_takeSign_37 (by cases hf; rfl)
theorem MX2_takeSign (l : Launch) (D : va_G) (T : zT) (lo : Nat) (al : Bool) (hi : Nat) {h : zH} {a0 : Nat} {p0 : Int32} {h9 : zH} (hf : FX2_takeSign T a0 p0 h = some h9) : zM l yX2_takeSign (.code yX2_takeSign cX2_takeSign 2 none :: TW) ({ frames := 1, cells := 0, slots := 0, locals := 22 } : Room) D T lo al [.ref a0, .int p0] hi h (none, hi, h9) :=
  z_enter (own := RX2) (nm := "takeSign") (lv := [(0, .ref a0), (1, .int p0)]) (by decide +kernel) rfl rfl (Nat.le_of_ble_eq_true rfl) rfl (fun _ _ _ _ _ _ _ _ C => BX2_takeSign C hf)
theorem OX2_takeSign {T : zT} {h : zH} {a0 : Nat} {p0 : Int32} {r9 : zH} (hf : FX2_takeSign T a0 p0 h = some r9) : ∃ fs, h a0 = some (.inr (2, fs)) := by
  obtain ⟨_, h1, _⟩ := zbind hf
  exact zo_obj h1
theorem dX2_readLetter_0 : decode cX2_readLetter 0 = .ok (.aload_n 0, 1) := by decide +kernel
theorem dX2_readLetter_1 : decode cX2_readLetter 1 = .ok (.iconst 0, 1) := by decide +kernel
theorem dX2_readLetter_2 : decode cX2_readLetter 2 = .ok (.putfield 26, 3) := by decide +kernel
theorem dX2_readLetter_5 : decode cX2_readLetter 5 = .ok (.aload_n 0, 1) := by decide +kernel
theorem dX2_readLetter_6 : decode cX2_readLetter 6 = .ok (.iconst 0, 1) := by decide +kernel
theorem dX2_readLetter_7 : decode cX2_readLetter 7 = .ok (.putfield 30, 3) := by decide +kernel
theorem dX2_readLetter_10 : decode cX2_readLetter 10 = .ok (.aload_n 0, 1) := by decide +kernel
theorem dX2_readLetter_11 : decode cX2_readLetter 11 = .ok (.iconst 0, 1) := by decide +kernel
theorem dX2_readLetter_12 : decode cX2_readLetter 12 = .ok (.putfield 33, 3) := by decide +kernel
theorem dX2_readLetter_15 : decode cX2_readLetter 15 = .ok (.aload_n 0, 1) := by decide +kernel
theorem dX2_readLetter_16 : decode cX2_readLetter 16 = .ok (.getfield 14, 3) := by decide +kernel
theorem dX2_readLetter_19 : decode cX2_readLetter 19 = .ok (.bipush (-9), 2) := by decide +kernel
theorem dX2_readLetter_21 : decode cX2_readLetter 21 = .ok (.invokevirtual 36, 3) := by decide +kernel
theorem dX2_readLetter_24 : decode cX2_readLetter 24 = .ok (.aload_n 1, 1) := by decide +kernel
theorem dX2_readLetter_25 : decode cX2_readLetter 25 = .ok (.getfield 39, 3) := by decide +kernel
theorem dX2_readLetter_28 : decode cX2_readLetter 28 = .ok (.iload_n 2, 1) := by decide +kernel
theorem dX2_readLetter_29 : decode cX2_readLetter 29 = .ok (.invokevirtual 44, 3) := by decide +kernel
theorem dX2_readLetter_32 : decode cX2_readLetter 32 = .ok (.ifCond .ne 7, 3) := by decide +kernel
theorem dX2_readLetter_35 : decode cX2_readLetter 35 = .ok (.iconst 1, 1) := by decide +kernel
theorem dX2_readLetter_36 : decode cX2_readLetter 36 = .ok (.goto 4, 3) := by decide +kernel
theorem dX2_readLetter_39 : decode cX2_readLetter 39 = .ok (.iconst 0, 1) := by decide +kernel
theorem dX2_readLetter_40 : decode cX2_readLetter 40 = .ok (.istore 4, 2) := by decide +kernel
theorem dX2_readLetter_42 : decode cX2_readLetter 42 = .ok (.iload 4, 2) := by decide +kernel
theorem dX2_readLetter_44 : decode cX2_readLetter 44 = .ok (.ifCond .eq 10, 3) := by decide +kernel
theorem dX2_readLetter_47 : decode cX2_readLetter 47 = .ok (.aload_n 1, 1) := by decide +kernel
theorem dX2_readLetter_48 : decode cX2_readLetter 48 = .ok (.getfield 48, 3) := by decide +kernel
theorem dX2_readLetter_51 : decode cX2_readLetter 51 = .ok (.goto 7, 3) := by decide +kernel
theorem dX2_readLetter_54 : decode cX2_readLetter 54 = .ok (.aload_n 1, 1) := by decide +kernel
theorem dX2_readLetter_55 : decode cX2_readLetter 55 = .ok (.getfield 51, 3) := by decide +kernel
theorem dX2_readLetter_58 : decode cX2_readLetter 58 = .ok (.istore 5, 2) := by decide +kernel
theorem dX2_readLetter_60 : decode cX2_readLetter 60 = .ok (.iload 4, 2) := by decide +kernel
theorem dX2_readLetter_62 : decode cX2_readLetter 62 = .ok (.ifCond .eq 10, 3) := by decide +kernel
theorem dX2_readLetter_65 : decode cX2_readLetter 65 = .ok (.aload_n 1, 1) := by decide +kernel
theorem dX2_readLetter_66 : decode cX2_readLetter 66 = .ok (.getfield 51, 3) := by decide +kernel
theorem dX2_readLetter_69 : decode cX2_readLetter 69 = .ok (.goto 7, 3) := by decide +kernel
theorem dX2_readLetter_72 : decode cX2_readLetter 72 = .ok (.aload_n 1, 1) := by decide +kernel
theorem dX2_readLetter_73 : decode cX2_readLetter 73 = .ok (.getfield 48, 3) := by decide +kernel
theorem dX2_readLetter_76 : decode cX2_readLetter 76 = .ok (.istore 6, 2) := by decide +kernel
theorem dX2_readLetter_78 : decode cX2_readLetter 78 = .ok (.iconst 0, 1) := by decide +kernel
theorem dX2_readLetter_79 : decode cX2_readLetter 79 = .ok (.istore 7, 2) := by decide +kernel
theorem dX2_readLetter_81 : decode cX2_readLetter 81 = .ok (.iload 7, 2) := by decide +kernel
theorem dX2_readLetter_83 : decode cX2_readLetter 83 = .ok (.iload 5, 2) := by decide +kernel
theorem dX2_readLetter_85 : decode cX2_readLetter 85 = .ok (.if_icmp .ge 145, 3) := by decide +kernel
theorem dX2_readLetter_88 : decode cX2_readLetter 88 = .ok (.iconst 0, 1) := by decide +kernel
theorem dX2_readLetter_89 : decode cX2_readLetter 89 = .ok (.istore 8, 2) := by decide +kernel
theorem dX2_readLetter_91 : decode cX2_readLetter 91 = .ok (.iload 8, 2) := by decide +kernel
theorem dX2_readLetter_93 : decode cX2_readLetter 93 = .ok (.iload 6, 2) := by decide +kernel
theorem dX2_readLetter_95 : decode cX2_readLetter 95 = .ok (.if_icmp .ge 129, 3) := by decide +kernel
theorem dX2_readLetter_98 : decode cX2_readLetter 98 = .ok (.iload 4, 2) := by decide +kernel
theorem dX2_readLetter_100 : decode cX2_readLetter 100 = .ok (.ifCond .eq 8, 3) := by decide +kernel
theorem dX2_readLetter_103 : decode cX2_readLetter 103 = .ok (.iload 8, 2) := by decide +kernel
theorem dX2_readLetter_105 : decode cX2_readLetter 105 = .ok (.goto 5, 3) := by decide +kernel
theorem dX2_readLetter_108 : decode cX2_readLetter 108 = .ok (.iload 7, 2) := by decide +kernel
theorem dX2_readLetter_110 : decode cX2_readLetter 110 = .ok (.istore 9, 2) := by decide +kernel
theorem dX2_readLetter_112 : decode cX2_readLetter 112 = .ok (.iload 4, 2) := by decide +kernel
theorem dX2_readLetter_114 : decode cX2_readLetter 114 = .ok (.ifCond .eq 8, 3) := by decide +kernel
theorem dX2_readLetter_117 : decode cX2_readLetter 117 = .ok (.iload 7, 2) := by decide +kernel
theorem dX2_readLetter_119 : decode cX2_readLetter 119 = .ok (.goto 5, 3) := by decide +kernel
theorem dX2_readLetter_122 : decode cX2_readLetter 122 = .ok (.iload 8, 2) := by decide +kernel
theorem dX2_readLetter_124 : decode cX2_readLetter 124 = .ok (.istore 10, 2) := by decide +kernel
theorem dX2_readLetter_126 : decode cX2_readLetter 126 = .ok (.aload_n 1, 1) := by decide +kernel
theorem dX2_readLetter_127 : decode cX2_readLetter 127 = .ok (.iload 9, 2) := by decide +kernel
theorem dX2_readLetter_129 : decode cX2_readLetter 129 = .ok (.iload 10, 2) := by decide +kernel
theorem dX2_readLetter_131 : decode cX2_readLetter 131 = .ok (.invokevirtual 54, 3) := by decide +kernel
theorem dX2_readLetter_134 : decode cX2_readLetter 134 = .ok (.istore 11, 2) := by decide +kernel
theorem dX2_readLetter_136 : decode cX2_readLetter 136 = .ok (.iload 11, 2) := by decide +kernel
theorem dX2_readLetter_138 : decode cX2_readLetter 138 = .ok (.iload_n 2, 1) := by decide +kernel
theorem dX2_readLetter_139 : decode cX2_readLetter 139 = .ok (.if_icmp .ne 7, 3) := by decide +kernel
theorem dX2_readLetter_142 : decode cX2_readLetter 142 = .ok (.iconst 0, 1) := by decide +kernel
theorem dX2_readLetter_143 : decode cX2_readLetter 143 = .ok (.goto 4, 3) := by decide +kernel
theorem dX2_readLetter_146 : decode cX2_readLetter 146 = .ok (.iconst 1, 1) := by decide +kernel
theorem dX2_readLetter_147 : decode cX2_readLetter 147 = .ok (.istore 12, 2) := by decide +kernel
theorem dX2_readLetter_149 : decode cX2_readLetter 149 = .ok (.iload 11, 2) := by decide +kernel
theorem dX2_readLetter_151 : decode cX2_readLetter 151 = .ok (.bipush (-9), 2) := by decide +kernel
theorem dX2_readLetter_153 : decode cX2_readLetter 153 = .ok (.if_icmp .eq 65, 3) := by decide +kernel
theorem dX2_readLetter_156 : decode cX2_readLetter 156 = .ok (.aload_n 1, 1) := by decide +kernel
theorem dX2_readLetter_157 : decode cX2_readLetter 157 = .ok (.iload 9, 2) := by decide +kernel
theorem dX2_readLetter_159 : decode cX2_readLetter 159 = .ok (.iload 10, 2) := by decide +kernel
theorem dX2_readLetter_161 : decode cX2_readLetter 161 = .ok (.iload 12, 2) := by decide +kernel
theorem dX2_readLetter_163 : decode cX2_readLetter 163 = .ok (.invokevirtual 58, 3) := by decide +kernel
theorem dX2_readLetter_166 : decode cX2_readLetter 166 = .ok (.ifCond .eq 52, 3) := by decide +kernel
theorem dX2_readLetter_169 : decode cX2_readLetter 169 = .ok (.aload_n 0, 1) := by decide +kernel
theorem dX2_readLetter_170 : decode cX2_readLetter 170 = .ok (.iload 7, 2) := by decide +kernel
theorem dX2_readLetter_172 : decode cX2_readLetter 172 = .ok (.iload 8, 2) := by decide +kernel
theorem dX2_readLetter_174 : decode cX2_readLetter 174 = .ok (.iload_n 3, 1) := by decide +kernel
theorem dX2_readLetter_175 : decode cX2_readLetter 175 = .ok (.invokevirtual 62, 3) := by decide +kernel
theorem dX2_readLetter_178 : decode cX2_readLetter 178 = .ok (.aload_n 0, 1) := by decide +kernel
theorem dX2_readLetter_179 : decode cX2_readLetter 179 = .ok (.aload_n 1, 1) := by decide +kernel
theorem dX2_readLetter_180 : decode cX2_readLetter 180 = .ok (.getfield 66, 3) := by decide +kernel
theorem dX2_readLetter_183 : decode cX2_readLetter 183 = .ok (.iload 9, 2) := by decide +kernel
theorem dX2_readLetter_185 : decode cX2_readLetter 185 = .ok (.iload 10, 2) := by decide +kernel
theorem dX2_readLetter_187 : decode cX2_readLetter 187 = .ok (.iload 12, 2) := by decide +kernel
theorem dX2_readLetter_189 : decode cX2_readLetter 189 = .ok (.invokestatic 67, 3) := by decide +kernel
theorem dX2_readLetter_192 : decode cX2_readLetter 192 = .ok (.invokevirtual 44, 3) := by decide +kernel
theorem dX2_readLetter_195 : decode cX2_readLetter 195 = .ok (.invokevirtual 71, 3) := by decide +kernel
theorem dX2_readLetter_198 : decode cX2_readLetter 198 = .ok (.aload_n 0, 1) := by decide +kernel
theorem dX2_readLetter_199 : decode cX2_readLetter 199 = .ok (.getfield 14, 3) := by decide +kernel
theorem dX2_readLetter_202 : decode cX2_readLetter 202 = .ok (.iload 9, 2) := by decide +kernel
theorem dX2_readLetter_204 : decode cX2_readLetter 204 = .ok (.iload 10, 2) := by decide +kernel
theorem dX2_readLetter_206 : decode cX2_readLetter 206 = .ok (.invokestatic 74, 3) := by decide +kernel
theorem dX2_readLetter_209 : decode cX2_readLetter 209 = .ok (.aload_n 0, 1) := by decide +kernel
theorem dX2_readLetter_210 : decode cX2_readLetter 210 = .ok (.getfield 26, 3) := by decide +kernel
theorem dX2_readLetter_213 : decode cX2_readLetter 213 = .ok (.iconst 1, 1) := by decide +kernel
theorem dX2_readLetter_214 : decode cX2_readLetter 214 = .ok (.isub, 1) := by decide +kernel
theorem dX2_readLetter_215 : decode cX2_readLetter 215 = .ok (.invokevirtual 77, 3) := by decide +kernel
theorem dX2_readLetter_218 : decode cX2_readLetter 218 = .ok (.iinc 8 1, 3) := by decide +kernel
theorem dX2_readLetter_221 : decode cX2_readLetter 221 = .ok (.goto (-130), 3) := by decide +kernel
theorem dX2_readLetter_224 : decode cX2_readLetter 224 = .ok (.iinc 7 1, 3) := by decide +kernel
theorem dX2_readLetter_227 : decode cX2_readLetter 227 = .ok (.goto (-146), 3) := by decide +kernel
theorem dX2_readLetter_230 : decode cX2_readLetter 230 = .ok (.aload_n 0, 1) := by decide +kernel
theorem dX2_readLetter_231 : decode cX2_readLetter 231 = .ok (.getfield 26, 3) := by decide +kernel
theorem dX2_readLetter_234 : decode cX2_readLetter 234 = .ok (.ireturn, 1) := by decide +kernel
def LX2_readLetter_91 {ρ : Type} (T : zT) (x19 : Nat) (x20 : Nat) (x21 : Int32) (x22 : Int32) (x23 : Int32) (x24 : Int32) (x25 : Int32) (x26 : Int32) (K0 : zH → Option ρ) : Nat → Int32 → zH → Option ρ
  | 0, _, _ => none
  | k + 1, x27, h28 => if x25 ≤ x27 then (K0 h28) else (zJ (fun (x29 : Int32) => zJ (fun (x31 : Int32) (x32 : Int32) => zJ (fun (x34 : Int32) (x35 : Int32) (x36 : Int32) => zJ (fun (h38 : zH) => LX2_readLetter_91 T x19 x20 x21 x22 x23 x24 x25 x26 K0 k (x27 + 1) h38) (fun J39 => if x35 = (-9 : Int32) then (J39 h28) else ((FX3_hasMark T x20 x31 x34 x36 h28).bind fun x41 => if x41 = 0 then (J39 h28) else ((FX2_goTo T x19 x26 x27 x22 h28).bind fun h43 => (zgr h43 x20 3 8).bind fun x44 => (FX6_placeOf T x31 x34 x36 h43).bind fun x46 => (FX1_at T x44 x46 h43).bind fun x48 => (FX2_takeSign T x19 x48 h43).bind fun h50 => (zgr h50 x19 2 2).bind fun x51 => (FX6_cellOf T x31 x34 h50).bind fun x53 => (zgi h50 x19 2 0).bind fun x54 => (FX1_put T x51 x53 (x54 - 1) h50).bind fun h56 => J39 h56)))) (fun J37 => (FX3_ownerOfFirst T x20 x31 x32 h28).bind fun x58 => if x58 = x21 then (J37 x32 x58 0) else (J37 x32 x58 1))) (fun J33 => if x23 = 0 then (J33 x29 x27) else (J33 x29 x26))) (fun J30 => if x23 = 0 then (J30 x26) else (J30 x27)))
set_option maxHeartbeats 4000000 in
set_option maxRecDepth 100000 in
theorem LX2_readLetter_91_ok {X : zX} (C : zC X cX2_readLetter 13 RX2 "readLetter" (some .int) 4 95) {Z : State → Prop} {al : Bool} {hi : Nat} {ρ : Type} {r9 : ρ} {x19 : Nat} {x20 : Nat} {x21 : Int32} {x22 : Int32} {x23 : Int32} {x24 : Int32} {x25 : Int32} {x26 : Int32} {K0 : zH → Option ρ} (hK0 : ∀ (g9 : zH), K0 g9 = some r9 → zW X 13 Z 0 0 al hi g9 224 [(0, .ref x19), (1, .ref x20), (2, .int x21), (3, .int x22), (4, .int x23), (5, .int x24), (6, .int x25), (7, .int x26)] []) : ∀ (k : Nat) (x27 : Int32) (h28 : zH), LX2_readLetter_91 (xT X) x19 x20 x21 x22 x23 x24 x25 x26 K0 k x27 h28 = some r9 → zW X 13 Z 0 0 al hi h28 91 [(0, .ref x19), (1, .ref x20), (2, .int x21), (3, .int x22), (4, .int x23), (5, .int x24), (6, .int x25), (7, .int x26), (8, .int x27)] [] := by
  intro k
  induction k with
  | zero =>
    intro x27 h28 hf
    have hf : none = some r9 := hf
    cases hf
  | succ k ih =>
    intro x27 h28 hf
    rw [LX2_readLetter_91.eq_2] at hf
    refine z_iload C dX2_readLetter_91 8 rfl ?_
    refine z_iload C dX2_readLetter_93 6 rfl ?_
    refine z_icmp_ge (tgt := 224) C dX2_readLetter_95 (by decide) hf (fun hf => ?_) (fun hf => ?_)
    · refine z_sub [0, 1, 2, 3, 4, 5, 6, 7] rfl ?_
      exact hK0 _ hf
    · refine z_join (P := fun J => ∀ (x29 : Int32), J x29 = some r9 → zW X 13 Z 0 0 al hi h28 110 [(0, .ref x19), (1, .ref x20), (2, .int x21), (3, .int x22), (4, .int x23), (5, .int x24), (6, .int x25), (7, .int x26), (8, .int x27)] [.int x29]) hf ?_ ?_
      · intro x29 hf
        refine z_join (P := fun J => ∀ (x31 : Int32) (x32 : Int32), J x31 x32 = some r9 → zW X 13 Z 0 0 al hi h28 124 [(0, .ref x19), (1, .ref x20), (2, .int x21), (3, .int x22), (4, .int x23), (5, .int x24), (6, .int x25), (7, .int x26), (8, .int x27), (9, .int x31)] [.int x32]) hf ?_ ?_
        · intro x31 x32 hf
          refine z_join (P := fun J => ∀ (x34 : Int32) (x35 : Int32) (x36 : Int32), J x34 x35 x36 = some r9 → zW X 13 Z 0 0 al hi h28 147 [(0, .ref x19), (1, .ref x20), (2, .int x21), (3, .int x22), (4, .int x23), (5, .int x24), (6, .int x25), (7, .int x26), (8, .int x27), (9, .int x31), (10, .int x34), (11, .int x35)] [.int x36]) hf ?_ ?_
          · intro x34 x35 x36 hf
            refine z_join (P := fun J => ∀ (h38 : zH), J h38 = some r9 → zW X 13 Z 0 0 al hi h38 218 [(0, .ref x19), (1, .ref x20), (2, .int x21), (3, .int x22), (4, .int x23), (5, .int x24), (6, .int x25), (7, .int x26), (8, .int x27)] []) hf ?_ ?_
            · intro h38 hf
              refine z_iinc C dX2_readLetter_218 (k := 8) (d := 1) rfl (by decide) (by decide) (lv' := [(8, .int (x27 + 1)), (0, .ref x19), (1, .ref x20), (2, .int x21), (3, .int x22), (4, .int x23), (5, .int x24), (6, .int x25), (7, .int x26)]) rfl ?_
              refine z_goto (tgt := 91) C dX2_readLetter_221 (by decide) ?_
              refine z_sub [1, 2, 3, 4, 5, 6, 7, 8, 0] rfl ?_
              exact ih _ _ hf
            · intro J39 kJ39 hf
              refine z_istore C dX2_readLetter_147 (by decide) (lv' := [(12, .int x36), (0, .ref x19), (1, .ref x20), (2, .int x21), (3, .int x22), (4, .int x23), (5, .int x24), (6, .int x25), (7, .int x26), (8, .int x27), (9, .int x31), (10, .int x34), (11, .int x35)]) rfl ?_
              refine z_iload C dX2_readLetter_149 12 rfl ?_
              refine z_bipush C (v := (-9 : Int32)) dX2_readLetter_151 (by decide) ?_
              refine z_icmp_eq (tgt := 218) C dX2_readLetter_153 (by decide) hf (fun hf => ?_) (fun hf => ?_)
              · refine z_sub [1, 2, 3, 4, 5, 6, 7, 8, 9] rfl ?_
                exact kJ39 _ hf
              · refine z_aload_n C dX2_readLetter_156 2 rfl rfl ?_
                refine z_iload C dX2_readLetter_157 10 rfl ?_
                refine z_iload C dX2_readLetter_159 11 rfl ?_
                refine z_iload C dX2_readLetter_161 0 rfl ?_
                obtain ⟨x41, g40, hf⟩ := zbind hf
                refine z_callV (kc' := 0) (ks' := 0) C (MX3_hasMark (xl X) (xD X) (xT X) (xlo X) al hi g40) (OX3_hasMark g40) rfl cw_X2_58 yv_X3_hasMark dX2_readLetter_163 rfl (by decide) ⟨rfl, rfl⟩ (Nat.le_of_ble_eq_true rfl) (st := []) rfl ?_
                refine z_if_eq (tgt := 218) C dX2_readLetter_166 (by decide) hf (fun hf => ?_) (fun hf => ?_)
                · refine z_sub [1, 2, 3, 4, 5, 6, 7, 8, 9] rfl ?_
                  exact kJ39 _ hf
                · refine z_aload_n C dX2_readLetter_169 1 rfl rfl ?_
                  refine z_iload C dX2_readLetter_170 8 rfl ?_
                  refine z_iload C dX2_readLetter_172 9 rfl ?_
                  refine z_iload_n C dX2_readLetter_174 4 rfl rfl ?_
                  obtain ⟨h43, g42, hf⟩ := zbind hf
                  refine z_callV (kc' := 0) (ks' := 0) C (MX2_goTo (xl X) (xD X) (xT X) (xlo X) al hi g42) (OX2_goTo g42) rfl cw_X2_62 yv_X2_goTo dX2_readLetter_175 rfl (by decide) ⟨rfl, rfl⟩ (Nat.le_of_ble_eq_true rfl) (st := []) rfl ?_
                  refine z_aload_n C dX2_readLetter_178 1 rfl rfl ?_
                  refine z_aload_n C dX2_readLetter_179 2 rfl rfl ?_
                  refine z_getR C fl_X2_66 dX2_readLetter_180 hf (fun x44 hf => ?_)
                  refine z_iload C dX2_readLetter_183 10 rfl ?_
                  refine z_iload C dX2_readLetter_185 11 rfl ?_
                  refine z_iload C dX2_readLetter_187 0 rfl ?_
                  obtain ⟨x46, g45, hf⟩ := zbind hf
                  refine z_callSN (kc' := 0) (ks' := 0) C (MX6_placeOf (xl X) (xD X) (xT X) (xlo X) al hi g45) cw_X2_67 nw_X2_67 mw_408 mw_26 ys_X6_placeOf dX2_readLetter_189 rfl (by decide) ⟨rfl, rfl⟩ (Nat.le_of_ble_eq_true rfl) (st := [.ref x44, .ref x19]) rfl ?_
                  obtain ⟨x48, g47, hf⟩ := zbind hf
                  refine z_callV (kc' := 0) (ks' := 0) C (MX1_at (xl X) (xD X) (xT X) (xlo X) al hi g47) (OX1_at g47) rfl cw_X2_44 yv_X1_at dX2_readLetter_192 rfl (by decide) ⟨rfl, rfl⟩ (Nat.le_of_ble_eq_true rfl) (st := [.ref x19]) rfl ?_
                  obtain ⟨h50, g49, hf⟩ := zbind hf
                  refine z_callV (kc' := 0) (ks' := 0) C (MX2_takeSign (xl X) (xD X) (xT X) (xlo X) al hi g49) (OX2_takeSign g49) rfl cw_X2_71 yv_X2_takeSign dX2_readLetter_195 rfl (by decide) ⟨rfl, rfl⟩ (Nat.le_of_ble_eq_true rfl) (st := []) rfl ?_
                  refine z_aload_n C dX2_readLetter_198 1 rfl rfl ?_
                  refine z_getR C fl_X2_14 dX2_readLetter_199 hf (fun x51 hf => ?_)
                  refine z_iload C dX2_readLetter_202 10 rfl ?_
                  refine z_iload C dX2_readLetter_204 11 rfl ?_
                  obtain ⟨x53, g52, hf⟩ := zbind hf
                  refine z_callSN (kc' := 0) (ks' := 0) C (MX6_cellOf (xl X) (xD X) (xT X) (xlo X) al hi g52) cw_X2_74 nw_X2_74 mw_393 mw_26 ys_X6_cellOf dX2_readLetter_206 rfl (by decide) ⟨rfl, rfl⟩ (Nat.le_of_ble_eq_true rfl) (st := [.ref x51]) rfl ?_
                  refine z_aload_n C dX2_readLetter_209 1 rfl rfl ?_
                  refine z_getI C fl_X2_26 dX2_readLetter_210 hf (fun x54 hf => ?_)
                  refine z_iconst C (v := 1) dX2_readLetter_213 (by decide) ?_
                  refine z_isub C dX2_readLetter_214 ?_
                  obtain ⟨h56, g55, hf⟩ := zbind hf
                  refine z_callV (kc' := 0) (ks' := 0) C (MX1_put (xl X) (xD X) (xT X) (xlo X) al hi g55) (OX1_put g55) rfl cw_X2_77 yv_X1_put dX2_readLetter_215 rfl (by decide) ⟨rfl, rfl⟩ (Nat.le_of_ble_eq_true rfl) (st := []) rfl ?_
                  refine z_sub [1, 2, 3, 4, 5, 6, 7, 8, 9] rfl ?_
                  exact kJ39 _ hf
          · intro J37 kJ37 hf
            refine z_istore C dX2_readLetter_124 (by decide) (lv' := [(10, .int x32), (0, .ref x19), (1, .ref x20), (2, .int x21), (3, .int x22), (4, .int x23), (5, .int x24), (6, .int x25), (7, .int x26), (8, .int x27), (9, .int x31)]) rfl ?_
            refine z_aload_n C dX2_readLetter_126 2 rfl rfl ?_
            refine z_iload C dX2_readLetter_127 10 rfl ?_
            refine z_iload C dX2_readLetter_129 0 rfl ?_
            obtain ⟨x58, g57, hf⟩ := zbind hf
            refine z_callV (kc' := 0) (ks' := 0) C (MX3_ownerOfFirst (xl X) (xD X) (xT X) (xlo X) al hi g57) (OX3_ownerOfFirst g57) rfl cw_X2_54 yv_X3_ownerOfFirst dX2_readLetter_131 rfl (by decide) ⟨rfl, rfl⟩ (Nat.le_of_ble_eq_true rfl) (st := []) rfl ?_
            refine z_istore C dX2_readLetter_134 (by decide) (lv' := [(11, .int x58), (10, .int x32), (0, .ref x19), (1, .ref x20), (2, .int x21), (3, .int x22), (4, .int x23), (5, .int x24), (6, .int x25), (7, .int x26), (8, .int x27), (9, .int x31)]) rfl ?_
            refine z_iload C dX2_readLetter_136 0 rfl ?_
            refine z_iload_n C dX2_readLetter_138 4 rfl rfl ?_
            refine z_icmp_ne (tgt := 146) C dX2_readLetter_139 (by decide) hf (fun hf => ?_) (fun hf => ?_)
            · refine z_iconst C (v := 1) dX2_readLetter_146 (by decide) ?_
              refine z_sub [2, 3, 4, 5, 6, 7, 8, 9, 10, 11, 1, 0] rfl ?_
              exact kJ37 _ _ _ hf
            · refine z_iconst C (v := 0) dX2_readLetter_142 (by decide) ?_
              refine z_goto (tgt := 147) C dX2_readLetter_143 (by decide) ?_
              refine z_sub [2, 3, 4, 5, 6, 7, 8, 9, 10, 11, 1, 0] rfl ?_
              exact kJ37 _ _ _ hf
        · intro J33 kJ33 hf
          refine z_istore C dX2_readLetter_110 (by decide) (lv' := [(9, .int x29), (0, .ref x19), (1, .ref x20), (2, .int x21), (3, .int x22), (4, .int x23), (5, .int x24), (6, .int x25), (7, .int x26), (8, .int x27)]) rfl ?_
          refine z_iload C dX2_readLetter_112 5 rfl ?_
          refine z_if_eq (tgt := 122) C dX2_readLetter_114 (by decide) hf (fun hf => ?_) (fun hf => ?_)
          · refine z_iload C dX2_readLetter_122 9 rfl ?_
            refine z_sub [1, 2, 3, 4, 5, 6, 7, 8, 9, 0] rfl ?_
            exact kJ33 _ _ hf
          · refine z_iload C dX2_readLetter_117 8 rfl ?_
            refine z_goto (tgt := 124) C dX2_readLetter_119 (by decide) ?_
            refine z_sub [1, 2, 3, 4, 5, 6, 7, 8, 9, 0] rfl ?_
            exact kJ33 _ _ hf
      · intro J30 kJ30 hf
        refine z_iload C dX2_readLetter_98 4 rfl ?_
        refine z_if_eq (tgt := 108) C dX2_readLetter_100 (by decide) hf (fun hf => ?_) (fun hf => ?_)
        · refine z_iload C dX2_readLetter_108 7 rfl ?_
          exact kJ30 _ hf
        · refine z_iload C dX2_readLetter_103 8 rfl ?_
          refine z_goto (tgt := 110) C dX2_readLetter_105 (by decide) ?_
          exact kJ30 _ hf
def LX2_readLetter_81 {ρ : Type} (T : zT) (x10 : Nat) (x11 : Nat) (x12 : Int32) (x13 : Int32) (x14 : Int32) (x15 : Int32) (x16 : Int32) (K0 : zH → Option ρ) : Nat → Int32 → zH → Option ρ
  | 0, _, _ => none
  | k + 1, x17, h18 => if x15 ≤ x17 then (K0 h18) else (LX2_readLetter_91 T x10 x11 x12 x13 x14 x15 x16 x17 (fun (h59 : zH) => LX2_readLetter_81 T x10 x11 x12 x13 x14 x15 x16 K0 k (x17 + 1) h59) FUEL 0 h18)
set_option maxHeartbeats 4000000 in
set_option maxRecDepth 100000 in
theorem LX2_readLetter_81_ok {X : zX} (C : zC X cX2_readLetter 13 RX2 "readLetter" (some .int) 4 95) {Z : State → Prop} {al : Bool} {hi : Nat} {ρ : Type} {r9 : ρ} {x10 : Nat} {x11 : Nat} {x12 : Int32} {x13 : Int32} {x14 : Int32} {x15 : Int32} {x16 : Int32} {K0 : zH → Option ρ} (hK0 : ∀ (g9 : zH), K0 g9 = some r9 → zW X 13 Z 0 0 al hi g9 230 [(0, .ref x10)] []) : ∀ (k : Nat) (x17 : Int32) (h18 : zH), LX2_readLetter_81 (xT X) x10 x11 x12 x13 x14 x15 x16 K0 k x17 h18 = some r9 → zW X 13 Z 0 0 al hi h18 81 [(0, .ref x10), (1, .ref x11), (2, .int x12), (3, .int x13), (4, .int x14), (5, .int x15), (6, .int x16), (7, .int x17)] [] := by
  intro k
  induction k with
  | zero =>
    intro x17 h18 hf
    have hf : none = some r9 := hf
    cases hf
  | succ k ih =>
    intro x17 h18 hf
    rw [LX2_readLetter_81.eq_2] at hf
    refine z_iload C dX2_readLetter_81 7 rfl ?_
    refine z_iload C dX2_readLetter_83 5 rfl ?_
    refine z_icmp_ge (tgt := 230) C dX2_readLetter_85 (by decide) hf (fun hf => ?_) (fun hf => ?_)
    · refine z_sub [0] rfl ?_
      exact hK0 _ hf
    · refine z_iconst C (v := 0) dX2_readLetter_88 (by decide) ?_
      refine z_istore C dX2_readLetter_89 (by decide) (lv' := [(8, .int 0), (0, .ref x10), (1, .ref x11), (2, .int x12), (3, .int x13), (4, .int x14), (5, .int x15), (6, .int x16), (7, .int x17)]) rfl ?_
      refine z_sub [1, 2, 3, 4, 5, 6, 7, 8, 0] rfl ?_
      refine LX2_readLetter_91_ok C ?_ FUEL _ _ hf
      · intro h59 hf
        refine z_iinc C dX2_readLetter_224 (k := 7) (d := 1) rfl (by decide) (by decide) (lv' := [(7, .int (x17 + 1)), (0, .ref x10), (1, .ref x11), (2, .int x12), (3, .int x13), (4, .int x14), (5, .int x15), (6, .int x16)]) rfl ?_
        refine z_goto (tgt := 81) C dX2_readLetter_227 (by decide) ?_
        refine z_sub [1, 2, 3, 4, 5, 6, 7, 0] rfl ?_
        exact ih _ _ hf
def FX2_readLetter (T : zT) (a0 : Nat) (p0 : Nat) (p1 : Int32) (p2 : Int32) (h : zH) : Option (Int32 × zH) := (zo h a0 2).bind fun _ => zJ (fun (x1 : Int32) (h2 : zH) => zJ (fun (x4 : Int32) (x5 : Int32) => zJ (fun (x7 : Int32) (x8 : Int32) => LX2_readLetter_81 T a0 p0 p1 p2 x4 x7 x8 (fun (h60 : zH) => (zgi h60 a0 2 0).bind fun x61 => some (x61, h60)) FUEL 0 h2) (fun J9 => if x4 = 0 then ((zgi h2 p0 3 1).bind fun x62 => J9 x5 x62) else ((zgi h2 p0 3 0).bind fun x63 => J9 x5 x63))) (fun J6 => if x1 = 0 then ((zgi h2 p0 3 0).bind fun x64 => J6 x1 x64) else ((zgi h2 p0 3 1).bind fun x65 => J6 x1 x65))) (fun J3 => (zpv h a0 2 0 (.int 0)).bind fun h66 => (zpv h66 a0 2 1 (.int 0)).bind fun h67 => (zpv h67 a0 2 5 (.int 0)).bind fun h68 => (zgr h68 a0 2 2).bind fun x69 => (FX1_fill T x69 (-9 : Int32) h68).bind fun h71 => (zgr h71 p0 3 6).bind fun x72 => (FX1_at T x72 p1 h71).bind fun x74 => if x74 = 0 then (J3 1 h71) else (J3 0 h71))
set_option maxHeartbeats 4000000 in
set_option maxRecDepth 100000 in
theorem BX2_readLetter {X : zX} (C : zC X cX2_readLetter 13 RX2 "readLetter" (some .int) 4 95) {al : Bool} {hi : Nat} {h : zH} {a0 : Nat} {p0 : Nat} {p1 : Int32} {p2 : Int32} {r9 : (Int32 × zH)} (hf : FX2_readLetter (xT X) a0 p0 p1 p2 h = some r9) : zW X 13 (zZ X al (some (.int r9.1), hi, r9.2)) 0 0 al hi h 0 [(0, .ref a0), (1, .ref p0), (2, .int p1), (3, .int p2)] [] := by
  unfold FX2_readLetter at hf
  obtain ⟨_, _, hf⟩ := zbind hf
  refine z_join (P := fun J => ∀ (x1 : Int32) (h2 : zH), J x1 h2 = some r9 → zW X 13 (zZ X al (some (.int r9.1), hi, r9.2)) 0 0 al hi h2 40 [(0, .ref a0), (1, .ref p0), (2, .int p1), (3, .int p2)] [.int x1]) hf ?_ ?_
  · intro x1 h2 hf
    refine z_join (P := fun J => ∀ (x4 : Int32) (x5 : Int32), J x4 x5 = some r9 → zW X 13 (zZ X al (some (.int r9.1), hi, r9.2)) 0 0 al hi h2 58 [(0, .ref a0), (1, .ref p0), (2, .int p1), (3, .int p2), (4, .int x4)] [.int x5]) hf ?_ ?_
    · intro x4 x5 hf
      refine z_join (P := fun J => ∀ (x7 : Int32) (x8 : Int32), J x7 x8 = some r9 → zW X 13 (zZ X al (some (.int r9.1), hi, r9.2)) 0 0 al hi h2 76 [(0, .ref a0), (1, .ref p0), (2, .int p1), (3, .int p2), (4, .int x4), (5, .int x7)] [.int x8]) hf ?_ ?_
      · intro x7 x8 hf
        refine z_istore C dX2_readLetter_76 (by decide) (lv' := [(6, .int x8), (0, .ref a0), (1, .ref p0), (2, .int p1), (3, .int p2), (4, .int x4), (5, .int x7)]) rfl ?_
        refine z_iconst C (v := 0) dX2_readLetter_78 (by decide) ?_
        refine z_istore C dX2_readLetter_79 (by decide) (lv' := [(7, .int 0), (6, .int x8), (0, .ref a0), (1, .ref p0), (2, .int p1), (3, .int p2), (4, .int x4), (5, .int x7)]) rfl ?_
        refine z_sub [2, 3, 4, 5, 6, 7, 1, 0] rfl ?_
        refine LX2_readLetter_81_ok C ?_ FUEL _ _ hf
        · intro h60 hf
          refine z_aload_n C dX2_readLetter_230 0 rfl rfl ?_
          refine z_getI C fl_X2_26 dX2_readLetter_231 hf (fun x61 hf => ?_)
          exact z_ireturn C dX2_readLetter_234 (by cases hf; rfl)
      · intro J9 kJ9 hf
        refine z_istore C dX2_readLetter_58 (by decide) (lv' := [(5, .int x5), (0, .ref a0), (1, .ref p0), (2, .int p1), (3, .int p2), (4, .int x4)]) rfl ?_
        refine z_iload C dX2_readLetter_60 5 rfl ?_
        refine z_if_eq (tgt := 72) C dX2_readLetter_62 (by decide) hf (fun hf => ?_) (fun hf => ?_)
        · refine z_aload_n C dX2_readLetter_72 2 rfl rfl ?_
          refine z_getI C fl_X2_48 dX2_readLetter_73 hf (fun x62 hf => ?_)
          refine z_sub [1, 2, 3, 4, 5, 0] rfl ?_
          exact kJ9 _ _ hf
        · refine z_aload_n C dX2_readLetter_65 2 rfl rfl ?_
          refine z_getI C fl_X2_51 dX2_readLetter_66 hf (fun x63 hf => ?_)
          refine z_goto (tgt := 76) C dX2_readLetter_69 (by decide) ?_
          refine z_sub [1, 2, 3, 4, 5, 0] rfl ?_
          exact kJ9 _ _ hf
    · intro J6 kJ6 hf
      refine z_istore C dX2_readLetter_40 (by decide) (lv' := [(4, .int x1), (0, .ref a0), (1, .ref p0), (2, .int p1), (3, .int p2)]) rfl ?_
      refine z_iload C dX2_readLetter_42 0 rfl ?_
      refine z_if_eq (tgt := 54) C dX2_readLetter_44 (by decide) hf (fun hf => ?_) (fun hf => ?_)
      · refine z_aload_n C dX2_readLetter_54 2 rfl rfl ?_
        refine z_getI C fl_X2_51 dX2_readLetter_55 hf (fun x64 hf => ?_)
        refine z_sub [1, 2, 3, 4, 0] rfl ?_
        exact kJ6 _ _ hf
      · refine z_aload_n C dX2_readLetter_47 2 rfl rfl ?_
        refine z_getI C fl_X2_48 dX2_readLetter_48 hf (fun x65 hf => ?_)
        refine z_goto (tgt := 58) C dX2_readLetter_51 (by decide) ?_
        refine z_sub [1, 2, 3, 4, 0] rfl ?_
        exact kJ6 _ _ hf
  · intro J3 kJ3 hf
    refine z_aload_n C dX2_readLetter_0 0 rfl rfl ?_
    refine z_iconst C (v := 0) dX2_readLetter_1 (by decide) ?_
    refine z_put C fl_X2_26 dX2_readLetter_2 rfl rfl hf (fun h66 hf => ?_)
    refine z_aload_n C dX2_readLetter_5 0 rfl rfl ?_
    refine z_iconst C (v := 0) dX2_readLetter_6 (by decide) ?_
    refine z_put C fl_X2_30 dX2_readLetter_7 rfl rfl hf (fun h67 hf => ?_)
    refine z_aload_n C dX2_readLetter_10 0 rfl rfl ?_
    refine z_iconst C (v := 0) dX2_readLetter_11 (by decide) ?_
    refine z_put C fl_X2_33 dX2_readLetter_12 rfl rfl hf (fun h68 hf => ?_)
    refine z_aload_n C dX2_readLetter_15 0 rfl rfl ?_
    refine z_getR C fl_X2_14 dX2_readLetter_16 hf (fun x69 hf => ?_)
    refine z_bipush C (v := (-9 : Int32)) dX2_readLetter_19 (by decide) ?_
    obtain ⟨h71, g70, hf⟩ := zbind hf
    refine z_callV (kc' := 0) (ks' := 0) C (MX1_fill (xl X) (xD X) (xT X) (xlo X) al hi g70) (OX1_fill g70) rfl cw_X2_36 yv_X1_fill dX2_readLetter_21 rfl (by decide) ⟨rfl, rfl⟩ (Nat.le_of_ble_eq_true rfl) (st := []) rfl ?_
    refine z_aload_n C dX2_readLetter_24 1 rfl rfl ?_
    refine z_getR C fl_X2_39 dX2_readLetter_25 hf (fun x72 hf => ?_)
    refine z_iload_n C dX2_readLetter_28 2 rfl rfl ?_
    obtain ⟨x74, g73, hf⟩ := zbind hf
    refine z_callV (kc' := 0) (ks' := 0) C (MX1_at (xl X) (xD X) (xT X) (xlo X) al hi g73) (OX1_at g73) rfl cw_X2_44 yv_X1_at dX2_readLetter_29 rfl (by decide) ⟨rfl, rfl⟩ (Nat.le_of_ble_eq_true rfl) (st := []) rfl ?_
    refine z_if_ne (tgt := 39) C dX2_readLetter_32 (by decide) hf (fun hf => ?_) (fun hf => ?_)
    · refine z_iconst C (v := 0) dX2_readLetter_39 (by decide) ?_
      exact kJ3 _ _ hf
    · refine z_iconst C (v := 1) dX2_readLetter_35 (by decide) ?_
      refine z_goto (tgt := 40) C dX2_readLetter_36 (by decide) ?_
      exact kJ3 _ _ hf
theorem MX2_readLetter (l : Launch) (D : va_G) (T : zT) (lo : Nat) (al : Bool) (hi : Nat) {h : zH} {a0 : Nat} {p0 : Nat} {p1 : Int32} {p2 : Int32} {v9 : Int32} {h9 : zH} (hf : FX2_readLetter T a0 p0 p1 p2 h = some (v9, h9)) : zM l yX2_readLetter (.code yX2_readLetter cX2_readLetter 13 (some .int) :: TW) ({ frames := 4, cells := 0, slots := 0, locals := 95 } : Room) D T lo al [.ref a0, .ref p0, .int p1, .int p2] hi h (some (.int v9), hi, h9) :=
  z_enter (own := RX2) (nm := "readLetter") (lv := [(0, .ref a0), (1, .ref p0), (2, .int p1), (3, .int p2)]) (by decide +kernel) rfl rfl (Nat.le_of_ble_eq_true rfl) rfl (fun _ _ _ _ _ _ _ _ C => BX2_readLetter C hf)
theorem OX2_readLetter {T : zT} {h : zH} {a0 : Nat} {p0 : Nat} {p1 : Int32} {p2 : Int32} {r9 : (Int32 × zH)} (hf : FX2_readLetter T a0 p0 p1 p2 h = some r9) : ∃ fs, h a0 = some (.inr (2, fs)) := by
  obtain ⟨_, h1, _⟩ := zbind hf
  exact zo_obj h1
theorem dX2_hasNumber_0 : decode cX2_hasNumber 0 = .ok (.iload_n 1, 1) := by decide +kernel
theorem dX2_hasNumber_1 : decode cX2_hasNumber 1 = .ok (.ifCond .lt 15, 3) := by decide +kernel
theorem dX2_hasNumber_4 : decode cX2_hasNumber 4 = .ok (.iload_n 1, 1) := by decide +kernel
theorem dX2_hasNumber_5 : decode cX2_hasNumber 5 = .ok (.aload_n 0, 1) := by decide +kernel
theorem dX2_hasNumber_6 : decode cX2_hasNumber 6 = .ok (.getfield 26, 3) := by decide +kernel
theorem dX2_hasNumber_9 : decode cX2_hasNumber 9 = .ok (.if_icmp .ge 7, 3) := by decide +kernel
theorem dX2_hasNumber_12 : decode cX2_hasNumber 12 = .ok (.iconst 1, 1) := by decide +kernel
theorem dX2_hasNumber_13 : decode cX2_hasNumber 13 = .ok (.goto 4, 3) := by decide +kernel
theorem dX2_hasNumber_16 : decode cX2_hasNumber 16 = .ok (.iconst 0, 1) := by decide +kernel
theorem dX2_hasNumber_17 : decode cX2_hasNumber 17 = .ok (.ireturn, 1) := by decide +kernel
def FX2_hasNumber (T : zT) (a0 : Nat) (p0 : Int32) (h : zH) : Option Int32 := (zo h a0 2).bind fun _ => zJ (fun (x1 : Int32) => if x1 = 0 ∨ x1 = 1 then some x1 else none) (fun J2 => zJ (fun (u9 : Unit) => J2 0) (fun J3 => if p0 < 0 then (J3 ()) else ((zgi h a0 2 0).bind fun x4 => if x4 ≤ p0 then (J3 ()) else (J2 1))))
set_option maxHeartbeats 4000000 in
set_option maxRecDepth 100000 in
theorem BX2_hasNumber {X : zX} (C : zC X cX2_hasNumber 2 RX2 "hasNumber" (some .boolean) 0 0) {al : Bool} {hi : Nat} {h : zH} {a0 : Nat} {p0 : Int32} {r9 : Int32} (hf : FX2_hasNumber (xT X) a0 p0 h = some r9) : zW X 2 (zZ X al (some (.int r9), hi, h)) 0 0 al hi h 0 [(0, .ref a0), (1, .int p0)] [] := by
  unfold FX2_hasNumber at hf
  obtain ⟨_, _, hf⟩ := zbind hf
  refine z_join (P := fun J => ∀ (x1 : Int32), J x1 = some r9 → zW X 2 (zZ X al (some (.int r9), hi, h)) 0 0 al hi h 17 [] [.int x1]) hf ?_ ?_
  · intro x1 hf
    refine z_ite hf (fun c hf => ?_) (fun c hf => nomatch hf)
    exact z_zreturn C dX2_hasNumber_17 c (by cases hf; rfl)
  · intro J2 kJ2 hf
    refine z_join (P := fun J => ∀ (u9 : Unit), J u9 = some r9 → zW X 2 (zZ X al (some (.int r9), hi, h)) 0 0 al hi h 16 [] []) hf ?_ ?_
    · intro u9 hf
      refine z_iconst C (v := 0) dX2_hasNumber_16 (by decide) ?_
      exact kJ2 _ hf
    · intro J3 kJ3 hf
      refine z_iload_n C dX2_hasNumber_0 1 rfl rfl ?_
      refine z_if_lt (tgt := 16) C dX2_hasNumber_1 (by decide) hf (fun hf => ?_) (fun hf => ?_)
      · refine z_sub [] rfl ?_
        exact kJ3 _ hf
      · refine z_iload_n C dX2_hasNumber_4 1 rfl rfl ?_
        refine z_aload_n C dX2_hasNumber_5 0 rfl rfl ?_
        refine z_getI C fl_X2_26 dX2_hasNumber_6 hf (fun x4 hf => ?_)
        refine z_icmp_ge (tgt := 16) C dX2_hasNumber_9 (by decide) hf (fun hf => ?_) (fun hf => ?_)
        · refine z_sub [] rfl ?_
          exact kJ3 _ hf
        · refine z_iconst C (v := 1) dX2_hasNumber_12 (by decide) ?_
          refine z_goto (tgt := 17) C dX2_hasNumber_13 (by decide) ?_
          refine z_sub [] rfl ?_
          exact kJ2 _ hf
theorem MX2_hasNumber (l : Launch) (D : va_G) (T : zT) (lo : Nat) (al : Bool) (hi : Nat) {h : zH} {a0 : Nat} {p0 : Int32} {v9 : Int32} (hf : FX2_hasNumber T a0 p0 h = some v9) : zM l yX2_hasNumber (.code yX2_hasNumber cX2_hasNumber 2 (some .boolean) :: TW) ({ frames := 0, cells := 0, slots := 0, locals := 0 } : Room) D T lo al [.ref a0, .int p0] hi h (some (.int v9), hi, h) :=
  z_enter (own := RX2) (nm := "hasNumber") (lv := [(0, .ref a0), (1, .int p0)]) (by decide +kernel) rfl rfl (Nat.le_of_ble_eq_true rfl) rfl (fun _ _ _ _ _ _ _ _ C => BX2_hasNumber C hf)
theorem OX2_hasNumber {T : zT} {h : zH} {a0 : Nat} {p0 : Int32} {r9 : Int32} (hf : FX2_hasNumber T a0 p0 h = some r9) : ∃ fs, h a0 = some (.inr (2, fs)) := by
  obtain ⟨_, h1, _⟩ := zbind hf
  exact zo_obj h1
