theorem mw_2 : (Jvm.Cond.selects "CrossedSheet$Sheet" ({ cls := "CrossedSheet$Sheet", name := "putMark", desc := "(IIIII)V" } : Jvm.MethodName) ({ cls := "CrossedSheet$Sheet", name := "putMark", desc := "(IIIII)V" } : Jvm.MethodName)) ∈ TW := TWm 2 (by decide +kernel) (by decide +kernel)
theorem mw_3 : (Jvm.Cond.selects "CrossedSheet$Sheet" ({ cls := "CrossedSheet$Sheet", name := "decisionOf", desc := "(III)I" } : Jvm.MethodName) ({ cls := "CrossedSheet$Sheet", name := "decisionOf", desc := "(III)I" } : Jvm.MethodName)) ∈ TW := TWm 3 (by decide +kernel) (by decide +kernel)
theorem mw_4 : (Jvm.Cond.selects "CrossedSheet$Sheet" ({ cls := "CrossedSheet$Sheet", name := "leaningOf", desc := "(II)I" } : Jvm.MethodName) ({ cls := "CrossedSheet$Sheet", name := "leaningOf", desc := "(II)I" } : Jvm.MethodName)) ∈ TW := TWm 4 (by decide +kernel) (by decide +kernel)
theorem mw_17 : (Jvm.Cond.selects "CrossedSheet$Sheet" ({ cls := "CrossedSheet$Sheet", name := "turnCell", desc := "(LCrossedSheet$Sheet;II)V" } : Jvm.MethodName) ({ cls := "CrossedSheet$Sheet", name := "turnCell", desc := "(LCrossedSheet$Sheet;II)V" } : Jvm.MethodName)) ∈ TW := TWm 17 (by decide +kernel) (by decide +kernel)
theorem mw_26 : (Jvm.Cond.initialized "CrossedSheet") ∈ TW := TWm 26 (by decide +kernel) (by decide +kernel)
theorem mw_27 : (Jvm.Cond.initialized "CrossedSheet$Numbers") ∈ TW := TWm 27 (by decide +kernel) (by decide +kernel)
theorem mw_29 : (Jvm.Cond.initialized "CrossedSheet$Sheet") ∈ TW := TWm 29 (by decide +kernel) (by decide +kernel)
theorem mw_55 : (Jvm.Cond.fieldLink "CrossedSheet$Numbers" (9 : Nat) "CrossedSheet$Numbers" "numbers" "[I") ∈ TW := TWm 55 (by decide +kernel) (by decide +kernel)
theorem mw_100 : (Jvm.Cond.methodLink "CrossedSheet$Sheet" (44 : Nat) ({ cls := "CrossedSheet$Sheet", name := "putSize", desc := "(II)V" } : Jvm.MethodName)) ∈ TW := TWm 100 (by decide +kernel) (by decide +kernel)
theorem mw_101 : (Jvm.Cond.instanceMethod ({ cls := "CrossedSheet$Sheet", name := "putSize", desc := "(II)V" } : Jvm.MethodName)) ∈ TW := TWm 101 (by decide +kernel) (by decide +kernel)
theorem mw_102 : (Jvm.Cond.selects "CrossedSheet$Sheet" ({ cls := "CrossedSheet$Sheet", name := "putSize", desc := "(II)V" } : Jvm.MethodName) ({ cls := "CrossedSheet$Sheet", name := "putSize", desc := "(II)V" } : Jvm.MethodName)) ∈ TW := TWm 102 (by decide +kernel) (by decide +kernel)
theorem mw_103 : (Jvm.Cond.code ({ cls := "CrossedSheet$Sheet", name := "putSize", desc := "(II)V" } : Jvm.MethodName) prog_5_method_4_code (3 : Nat) (Option.none : Option Jvm.ClassFile.FieldType)) ∈ TW := TWm 103 (by decide +kernel) (by decide +kernel)
theorem mw_104 : (Jvm.Cond.methodLink "CrossedSheet$Sheet" (55 : Nat) ({ cls := "CrossedSheet$Sheet", name := "putLetter", desc := "(IIII)V" } : Jvm.MethodName)) ∈ TW := TWm 104 (by decide +kernel) (by decide +kernel)
theorem mw_105 : (Jvm.Cond.instanceMethod ({ cls := "CrossedSheet$Sheet", name := "putLetter", desc := "(IIII)V" } : Jvm.MethodName)) ∈ TW := TWm 105 (by decide +kernel) (by decide +kernel)
theorem mw_106 : (Jvm.Cond.selects "CrossedSheet$Sheet" ({ cls := "CrossedSheet$Sheet", name := "putLetter", desc := "(IIII)V" } : Jvm.MethodName) ({ cls := "CrossedSheet$Sheet", name := "putLetter", desc := "(IIII)V" } : Jvm.MethodName)) ∈ TW := TWm 106 (by decide +kernel) (by decide +kernel)
theorem mw_107 : (Jvm.Cond.code ({ cls := "CrossedSheet$Sheet", name := "putLetter", desc := "(IIII)V" } : Jvm.MethodName) prog_5_method_5_code (5 : Nat) (Option.none : Option Jvm.ClassFile.FieldType)) ∈ TW := TWm 107 (by decide +kernel) (by decide +kernel)
theorem mw_108 : (Jvm.Cond.methodLink "CrossedSheet$Sheet" (72 : Nat) ({ cls := "CrossedSheet$Numbers", name := "put", desc := "(II)V" } : Jvm.MethodName)) ∈ TW := TWm 108 (by decide +kernel) (by decide +kernel)
theorem mw_109 : (Jvm.Cond.instanceMethod ({ cls := "CrossedSheet$Numbers", name := "put", desc := "(II)V" } : Jvm.MethodName)) ∈ TW := TWm 109 (by decide +kernel) (by decide +kernel)
theorem mw_110 : (Jvm.Cond.selects "CrossedSheet$Numbers" ({ cls := "CrossedSheet$Numbers", name := "put", desc := "(II)V" } : Jvm.MethodName) ({ cls := "CrossedSheet$Numbers", name := "put", desc := "(II)V" } : Jvm.MethodName)) ∈ TW := TWm 110 (by decide +kernel) (by decide +kernel)
theorem mw_111 : (Jvm.Cond.code ({ cls := "CrossedSheet$Numbers", name := "put", desc := "(II)V" } : Jvm.MethodName) prog_3_method_3_code (3 : Nat) (Option.none : Option Jvm.ClassFile.FieldType)) ∈ TW := TWm 111 (by decide +kernel) (by decide +kernel)
theorem mw_112 : (Jvm.Cond.methodLink "CrossedSheet$Sheet" (59 : Nat) ({ cls := "CrossedSheet$Numbers", name := "fill", desc := "(I)V" } : Jvm.MethodName)) ∈ TW := TWm 112 (by decide +kernel) (by decide +kernel)
theorem mw_113 : (Jvm.Cond.instanceMethod ({ cls := "CrossedSheet$Numbers", name := "fill", desc := "(I)V" } : Jvm.MethodName)) ∈ TW := TWm 113 (by decide +kernel) (by decide +kernel)
theorem mw_114 : (Jvm.Cond.selects "CrossedSheet$Numbers" ({ cls := "CrossedSheet$Numbers", name := "fill", desc := "(I)V" } : Jvm.MethodName) ({ cls := "CrossedSheet$Numbers", name := "fill", desc := "(I)V" } : Jvm.MethodName)) ∈ TW := TWm 114 (by decide +kernel) (by decide +kernel)
theorem mw_115 : (Jvm.Cond.code ({ cls := "CrossedSheet$Numbers", name := "fill", desc := "(I)V" } : Jvm.MethodName) prog_3_method_4_code (3 : Nat) (Option.none : Option Jvm.ClassFile.FieldType)) ∈ TW := TWm 115 (by decide +kernel) (by decide +kernel)
theorem mw_117 : (Jvm.Cond.fieldLink "CrossedSheet$Sheet" (62 : Nat) "CrossedSheet$Sheet" "width" "I") ∈ TW := TWm 117 (by decide +kernel) (by decide +kernel)
theorem mw_121 : (Jvm.Cond.fieldLink "CrossedSheet$Sheet" (65 : Nat) "CrossedSheet$Sheet" "height" "I") ∈ TW := TWm 121 (by decide +kernel) (by decide +kernel)
theorem mw_124 : (Jvm.Cond.fieldLink "CrossedSheet$Sheet" (48 : Nat) "CrossedSheet$Sheet" "margin" "I") ∈ TW := TWm 124 (by decide +kernel) (by decide +kernel)
theorem mw_127 : (Jvm.Cond.fieldLink "CrossedSheet$Sheet" (52 : Nat) "CrossedSheet$Sheet" "gap" "I") ∈ TW := TWm 127 (by decide +kernel) (by decide +kernel)
theorem mw_130 : (Jvm.Cond.fieldLink "CrossedSheet$Sheet" (14 : Nat) "CrossedSheet$Sheet" "letterInks" "LCrossedSheet$Numbers;") ∈ TW := TWm 130 (by decide +kernel) (by decide +kernel)
theorem mw_132 : (Jvm.Cond.fieldLink "CrossedSheet$Sheet" (20 : Nat) "CrossedSheet$Sheet" "letterSlants" "LCrossedSheet$Numbers;") ∈ TW := TWm 132 (by decide +kernel) (by decide +kernel)
theorem mw_134 : (Jvm.Cond.fieldLink "CrossedSheet$Sheet" (23 : Nat) "CrossedSheet$Sheet" "letterWays" "LCrossedSheet$Numbers;") ∈ TW := TWm 134 (by decide +kernel) (by decide +kernel)
theorem mw_137 : (Jvm.Cond.fieldLink "CrossedSheet$Sheet" (26 : Nat) "CrossedSheet$Sheet" "markCounts" "LCrossedSheet$Numbers;") ∈ TW := TWm 137 (by decide +kernel) (by decide +kernel)
theorem mw_138 : (Jvm.Cond.fieldLink "CrossedSheet$Sheet" (29 : Nat) "CrossedSheet$Sheet" "signs" "LCrossedSheet$Numbers;") ∈ TW := TWm 138 (by decide +kernel) (by decide +kernel)
theorem mw_141 : (Jvm.Cond.fieldLink "CrossedSheet$Sheet" (32 : Nat) "CrossedSheet$Sheet" "inks" "LCrossedSheet$Numbers;") ∈ TW := TWm 141 (by decide +kernel) (by decide +kernel)
theorem mw_143 : (Jvm.Cond.fieldLink "CrossedSheet$Sheet" (35 : Nat) "CrossedSheet$Sheet" "slants" "LCrossedSheet$Numbers;") ∈ TW := TWm 143 (by decide +kernel) (by decide +kernel)
theorem mw_145 : (Jvm.Cond.fieldLink "CrossedSheet$Sheet" (38 : Nat) "CrossedSheet$Sheet" "decisions" "LCrossedSheet$Numbers;") ∈ TW := TWm 145 (by decide +kernel) (by decide +kernel)
theorem mw_365 : (Jvm.Cond.instanceMethod ({ cls := "CrossedSheet$Sheet", name := "takeFrom", desc := "(LCrossedSheet$Sheet;)V" } : Jvm.MethodName)) ∈ TW := TWm 365 (by decide +kernel) (by decide +kernel)
theorem mw_366 : (Jvm.Cond.selects "CrossedSheet$Sheet" ({ cls := "CrossedSheet$Sheet", name := "takeFrom", desc := "(LCrossedSheet$Sheet;)V" } : Jvm.MethodName) ({ cls := "CrossedSheet$Sheet", name := "takeFrom", desc := "(LCrossedSheet$Sheet;)V" } : Jvm.MethodName)) ∈ TW := TWm 366 (by decide +kernel) (by decide +kernel)
theorem mw_367 : (Jvm.Cond.code ({ cls := "CrossedSheet$Sheet", name := "takeFrom", desc := "(LCrossedSheet$Sheet;)V" } : Jvm.MethodName) prog_5_method_3_code (2 : Nat) (Option.none : Option Jvm.ClassFile.FieldType)) ∈ TW := TWm 367 (by decide +kernel) (by decide +kernel)
theorem mw_368 : (Jvm.Cond.methodLink "CrossedSheet$Sheet" (68 : Nat) ({ cls := "CrossedSheet$Numbers", name := "takeFrom", desc := "(LCrossedSheet$Numbers;)V" } : Jvm.MethodName)) ∈ TW := TWm 368 (by decide +kernel) (by decide +kernel)
theorem mw_369 : (Jvm.Cond.instanceMethod ({ cls := "CrossedSheet$Numbers", name := "takeFrom", desc := "(LCrossedSheet$Numbers;)V" } : Jvm.MethodName)) ∈ TW := TWm 369 (by decide +kernel) (by decide +kernel)
theorem mw_370 : (Jvm.Cond.selects "CrossedSheet$Numbers" ({ cls := "CrossedSheet$Numbers", name := "takeFrom", desc := "(LCrossedSheet$Numbers;)V" } : Jvm.MethodName) ({ cls := "CrossedSheet$Numbers", name := "takeFrom", desc := "(LCrossedSheet$Numbers;)V" } : Jvm.MethodName)) ∈ TW := TWm 370 (by decide +kernel) (by decide +kernel)
theorem mw_371 : (Jvm.Cond.code ({ cls := "CrossedSheet$Numbers", name := "takeFrom", desc := "(LCrossedSheet$Numbers;)V" } : Jvm.MethodName) prog_3_method_5_code (2 : Nat) (Option.none : Option Jvm.ClassFile.FieldType)) ∈ TW := TWm 371 (by decide +kernel) (by decide +kernel)
theorem mw_372 : (Jvm.Cond.methodLink "CrossedSheet$Numbers" (15 : Nat) ({ cls := "java/lang/System", name := "arraycopy", desc := "(Ljava/lang/Object;ILjava/lang/Object;II)V" } : Jvm.MethodName)) ∈ TW := TWm 372 (by decide +kernel) (by decide +kernel)
theorem mw_385 : (Jvm.Cond.instanceMethod ({ cls := "CrossedSheet$Sheet", name := "hasRoom", desc := "(II)Z" } : Jvm.MethodName)) ∈ TW := TWm 385 (by decide +kernel) (by decide +kernel)
theorem mw_386 : (Jvm.Cond.selects "CrossedSheet$Sheet" ({ cls := "CrossedSheet$Sheet", name := "hasRoom", desc := "(II)Z" } : Jvm.MethodName) ({ cls := "CrossedSheet$Sheet", name := "hasRoom", desc := "(II)Z" } : Jvm.MethodName)) ∈ TW := TWm 386 (by decide +kernel) (by decide +kernel)
theorem mw_387 : (Jvm.Cond.code ({ cls := "CrossedSheet$Sheet", name := "hasRoom", desc := "(II)Z" } : Jvm.MethodName) prog_5_method_10_code (3 : Nat) (Option.some Jvm.ClassFile.FieldType.boolean)) ∈ TW := TWm 387 (by decide +kernel) (by decide +kernel)
theorem mw_388 : (Jvm.Cond.methodLink "CrossedSheet$Sheet" (75 : Nat) ({ cls := "CrossedSheet$Sheet", name := "hasCell", desc := "(II)Z" } : Jvm.MethodName)) ∈ TW := TWm 388 (by decide +kernel) (by decide +kernel)
theorem mw_389 : (Jvm.Cond.instanceMethod ({ cls := "CrossedSheet$Sheet", name := "hasCell", desc := "(II)Z" } : Jvm.MethodName)) ∈ TW := TWm 389 (by decide +kernel) (by decide +kernel)
theorem mw_390 : (Jvm.Cond.selects "CrossedSheet$Sheet" ({ cls := "CrossedSheet$Sheet", name := "hasCell", desc := "(II)Z" } : Jvm.MethodName) ({ cls := "CrossedSheet$Sheet", name := "hasCell", desc := "(II)Z" } : Jvm.MethodName)) ∈ TW := TWm 390 (by decide +kernel) (by decide +kernel)
theorem mw_391 : (Jvm.Cond.code ({ cls := "CrossedSheet$Sheet", name := "hasCell", desc := "(II)Z" } : Jvm.MethodName) prog_5_method_7_code (3 : Nat) (Option.some Jvm.ClassFile.FieldType.boolean)) ∈ TW := TWm 391 (by decide +kernel) (by decide +kernel)
theorem mw_393 : (Jvm.Cond.static ({ cls := "CrossedSheet", name := "cellOf", desc := "(II)I" } : Jvm.MethodName)) ∈ TW := TWm 393 (by decide +kernel) (by decide +kernel)
theorem mw_394 : (Jvm.Cond.code ({ cls := "CrossedSheet", name := "cellOf", desc := "(II)I" } : Jvm.MethodName) prog_1_method_39_code (2 : Nat) (Option.some Jvm.ClassFile.FieldType.int)) ∈ TW := TWm 394 (by decide +kernel) (by decide +kernel)
theorem mw_395 : (Jvm.Cond.methodLink "CrossedSheet$Sheet" (83 : Nat) ({ cls := "CrossedSheet$Numbers", name := "at", desc := "(I)I" } : Jvm.MethodName)) ∈ TW := TWm 395 (by decide +kernel) (by decide +kernel)
theorem mw_396 : (Jvm.Cond.instanceMethod ({ cls := "CrossedSheet$Numbers", name := "at", desc := "(I)I" } : Jvm.MethodName)) ∈ TW := TWm 396 (by decide +kernel) (by decide +kernel)
theorem mw_397 : (Jvm.Cond.selects "CrossedSheet$Numbers" ({ cls := "CrossedSheet$Numbers", name := "at", desc := "(I)I" } : Jvm.MethodName) ({ cls := "CrossedSheet$Numbers", name := "at", desc := "(I)I" } : Jvm.MethodName)) ∈ TW := TWm 397 (by decide +kernel) (by decide +kernel)
theorem mw_398 : (Jvm.Cond.code ({ cls := "CrossedSheet$Numbers", name := "at", desc := "(I)I" } : Jvm.MethodName) prog_3_method_2_code (2 : Nat) (Option.some Jvm.ClassFile.FieldType.int)) ∈ TW := TWm 398 (by decide +kernel) (by decide +kernel)
theorem mw_403 : (Jvm.Cond.methodLink "CrossedSheet$Sheet" (105 : Nat) ({ cls := "CrossedSheet$Sheet", name := "hasMark", desc := "(III)Z" } : Jvm.MethodName)) ∈ TW := TWm 403 (by decide +kernel) (by decide +kernel)
theorem mw_404 : (Jvm.Cond.instanceMethod ({ cls := "CrossedSheet$Sheet", name := "hasMark", desc := "(III)Z" } : Jvm.MethodName)) ∈ TW := TWm 404 (by decide +kernel) (by decide +kernel)
theorem mw_405 : (Jvm.Cond.selects "CrossedSheet$Sheet" ({ cls := "CrossedSheet$Sheet", name := "hasMark", desc := "(III)Z" } : Jvm.MethodName) ({ cls := "CrossedSheet$Sheet", name := "hasMark", desc := "(III)Z" } : Jvm.MethodName)) ∈ TW := TWm 405 (by decide +kernel) (by decide +kernel)
theorem mw_406 : (Jvm.Cond.code ({ cls := "CrossedSheet$Sheet", name := "hasMark", desc := "(III)Z" } : Jvm.MethodName) prog_5_method_9_code (4 : Nat) (Option.some Jvm.ClassFile.FieldType.boolean)) ∈ TW := TWm 406 (by decide +kernel) (by decide +kernel)
theorem mw_408 : (Jvm.Cond.static ({ cls := "CrossedSheet", name := "placeOf", desc := "(III)I" } : Jvm.MethodName)) ∈ TW := TWm 408 (by decide +kernel) (by decide +kernel)
theorem mw_409 : (Jvm.Cond.code ({ cls := "CrossedSheet", name := "placeOf", desc := "(III)I" } : Jvm.MethodName) prog_1_method_40_code (3 : Nat) (Option.some Jvm.ClassFile.FieldType.int)) ∈ TW := TWm 409 (by decide +kernel) (by decide +kernel)
theorem mw_410 : (Jvm.Cond.methodLink "CrossedSheet" (204 : Nat) ({ cls := "CrossedSheet", name := "cellOf", desc := "(II)I" } : Jvm.MethodName)) ∈ TW := TWm 410 (by decide +kernel) (by decide +kernel)
theorem mw_411 : (Jvm.Cond.methodLink "CrossedSheet$Sheet" (101 : Nat) ({ cls := "CrossedSheet$Sheet", name := "putMark", desc := "(IIIII)V" } : Jvm.MethodName)) ∈ TW := TWm 411 (by decide +kernel) (by decide +kernel)
theorem mw_413 : (Jvm.Cond.instanceMethod ({ cls := "CrossedSheet$Sheet", name := "putMark", desc := "(IIIII)V" } : Jvm.MethodName)) ∈ TW := TWm 413 (by decide +kernel) (by decide +kernel)
theorem mw_414 : (Jvm.Cond.code ({ cls := "CrossedSheet$Sheet", name := "putMark", desc := "(IIIII)V" } : Jvm.MethodName) prog_5_method_14_code (6 : Nat) (Option.none : Option Jvm.ClassFile.FieldType)) ∈ TW := TWm 414 (by decide +kernel) (by decide +kernel)
theorem mw_415 : (Jvm.Cond.methodLink "CrossedSheet$Sheet" (94 : Nat) ({ cls := "CrossedSheet$Sheet", name := "marksIn", desc := "(II)I" } : Jvm.MethodName)) ∈ TW := TWm 415 (by decide +kernel) (by decide +kernel)
theorem mw_416 : (Jvm.Cond.instanceMethod ({ cls := "CrossedSheet$Sheet", name := "marksIn", desc := "(II)I" } : Jvm.MethodName)) ∈ TW := TWm 416 (by decide +kernel) (by decide +kernel)
theorem mw_417 : (Jvm.Cond.selects "CrossedSheet$Sheet" ({ cls := "CrossedSheet$Sheet", name := "marksIn", desc := "(II)I" } : Jvm.MethodName) ({ cls := "CrossedSheet$Sheet", name := "marksIn", desc := "(II)I" } : Jvm.MethodName)) ∈ TW := TWm 417 (by decide +kernel) (by decide +kernel)
theorem mw_418 : (Jvm.Cond.code ({ cls := "CrossedSheet$Sheet", name := "marksIn", desc := "(II)I" } : Jvm.MethodName) prog_5_method_8_code (3 : Nat) (Option.some Jvm.ClassFile.FieldType.int)) ∈ TW := TWm 418 (by decide +kernel) (by decide +kernel)
theorem mw_424 : (Jvm.Cond.methodLink "CrossedSheet$Sheet" (87 : Nat) ({ cls := "CrossedSheet$Sheet", name := "hasRoom", desc := "(II)Z" } : Jvm.MethodName)) ∈ TW := TWm 424 (by decide +kernel) (by decide +kernel)
theorem mw_435 : (Jvm.Cond.methodLink "CrossedSheet$Sheet" (112 : Nat) ({ cls := "CrossedSheet$Sheet", name := "decisionOf", desc := "(III)I" } : Jvm.MethodName)) ∈ TW := TWm 435 (by decide +kernel) (by decide +kernel)
theorem mw_437 : (Jvm.Cond.instanceMethod ({ cls := "CrossedSheet$Sheet", name := "decisionOf", desc := "(III)I" } : Jvm.MethodName)) ∈ TW := TWm 437 (by decide +kernel) (by decide +kernel)
theorem mw_438 : (Jvm.Cond.code ({ cls := "CrossedSheet$Sheet", name := "decisionOf", desc := "(III)I" } : Jvm.MethodName) prog_5_method_17_code (4 : Nat) (Option.some Jvm.ClassFile.FieldType.int)) ∈ TW := TWm 438 (by decide +kernel) (by decide +kernel)
theorem mw_439 : (Jvm.Cond.methodLink "CrossedSheet$Sheet" (137 : Nat) ({ cls := "CrossedSheet$Sheet", name := "leaningOf", desc := "(II)I" } : Jvm.MethodName)) ∈ TW := TWm 439 (by decide +kernel) (by decide +kernel)
theorem mw_441 : (Jvm.Cond.instanceMethod ({ cls := "CrossedSheet$Sheet", name := "leaningOf", desc := "(II)I" } : Jvm.MethodName)) ∈ TW := TWm 441 (by decide +kernel) (by decide +kernel)
theorem mw_442 : (Jvm.Cond.code ({ cls := "CrossedSheet$Sheet", name := "leaningOf", desc := "(II)I" } : Jvm.MethodName) prog_5_method_23_code (6 : Nat) (Option.some Jvm.ClassFile.FieldType.int)) ∈ TW := TWm 442 (by decide +kernel) (by decide +kernel)
theorem mw_443 : (Jvm.Cond.methodLink "CrossedSheet$Sheet" (134 : Nat) ({ cls := "CrossedSheet$Sheet", name := "distance", desc := "(II)I" } : Jvm.MethodName)) ∈ TW := TWm 443 (by decide +kernel) (by decide +kernel)
theorem mw_444 : (Jvm.Cond.instanceMethod ({ cls := "CrossedSheet$Sheet", name := "distance", desc := "(II)I" } : Jvm.MethodName)) ∈ TW := TWm 444 (by decide +kernel) (by decide +kernel)
theorem mw_445 : (Jvm.Cond.selects "CrossedSheet$Sheet" ({ cls := "CrossedSheet$Sheet", name := "distance", desc := "(II)I" } : Jvm.MethodName) ({ cls := "CrossedSheet$Sheet", name := "distance", desc := "(II)I" } : Jvm.MethodName)) ∈ TW := TWm 445 (by decide +kernel) (by decide +kernel)
theorem mw_446 : (Jvm.Cond.code ({ cls := "CrossedSheet$Sheet", name := "distance", desc := "(II)I" } : Jvm.MethodName) prog_5_method_22_code (3 : Nat) (Option.some Jvm.ClassFile.FieldType.int)) ∈ TW := TWm 446 (by decide +kernel) (by decide +kernel)
theorem mw_447 : (Jvm.Cond.methodLink "CrossedSheet$Sheet" (129 : Nat) ({ cls := "java/lang/Math", name := "abs", desc := "(I)I" } : Jvm.MethodName)) ∈ TW := TWm 447 (by decide +kernel) (by decide +kernel)
theorem mw_537 : (Jvm.Cond.methodLink "CrossedSheet$Sheet" (90 : Nat) ({ cls := "CrossedSheet$Sheet", name := "columnHasRoom", desc := "(I)Z" } : Jvm.MethodName)) ∈ TW := TWm 537 (by decide +kernel) (by decide +kernel)
theorem mw_538 : (Jvm.Cond.instanceMethod ({ cls := "CrossedSheet$Sheet", name := "columnHasRoom", desc := "(I)Z" } : Jvm.MethodName)) ∈ TW := TWm 538 (by decide +kernel) (by decide +kernel)
theorem mw_539 : (Jvm.Cond.selects "CrossedSheet$Sheet" ({ cls := "CrossedSheet$Sheet", name := "columnHasRoom", desc := "(I)Z" } : Jvm.MethodName) ({ cls := "CrossedSheet$Sheet", name := "columnHasRoom", desc := "(I)Z" } : Jvm.MethodName)) ∈ TW := TWm 539 (by decide +kernel) (by decide +kernel)
theorem mw_540 : (Jvm.Cond.code ({ cls := "CrossedSheet$Sheet", name := "columnHasRoom", desc := "(I)Z" } : Jvm.MethodName) prog_5_method_11_code (3 : Nat) (Option.some Jvm.ClassFile.FieldType.boolean)) ∈ TW := TWm 540 (by decide +kernel) (by decide +kernel)
theorem mw_544 : (Jvm.Cond.static ({ cls := "CrossedSheet", name := "isLetter", desc := "(I)Z" } : Jvm.MethodName)) ∈ TW := TWm 544 (by decide +kernel) (by decide +kernel)
theorem mw_545 : (Jvm.Cond.code ({ cls := "CrossedSheet", name := "isLetter", desc := "(I)Z" } : Jvm.MethodName) prog_1_method_38_code (1 : Nat) (Option.some Jvm.ClassFile.FieldType.boolean)) ∈ TW := TWm 545 (by decide +kernel) (by decide +kernel)
theorem mw_612 : (Jvm.Cond.methodLink "CrossedSheet" (313 : Nat) ({ cls := "CrossedSheet", name := "isLetter", desc := "(I)Z" } : Jvm.MethodName)) ∈ TW := TWm 612 (by decide +kernel) (by decide +kernel)
theorem mw_747 : (Jvm.Cond.instanceMethod ({ cls := "CrossedSheet$Sheet", name := "otherHasDecision", desc := "(IIII)Z" } : Jvm.MethodName)) ∈ TW := TWm 747 (by decide +kernel) (by decide +kernel)
theorem mw_748 : (Jvm.Cond.selects "CrossedSheet$Sheet" ({ cls := "CrossedSheet$Sheet", name := "otherHasDecision", desc := "(IIII)Z" } : Jvm.MethodName) ({ cls := "CrossedSheet$Sheet", name := "otherHasDecision", desc := "(IIII)Z" } : Jvm.MethodName)) ∈ TW := TWm 748 (by decide +kernel) (by decide +kernel)
theorem mw_749 : (Jvm.Cond.code ({ cls := "CrossedSheet$Sheet", name := "otherHasDecision", desc := "(IIII)Z" } : Jvm.MethodName) prog_5_method_16_code (5 : Nat) (Option.some Jvm.ClassFile.FieldType.boolean)) ∈ TW := TWm 749 (by decide +kernel) (by decide +kernel)
theorem mw_757 : (Jvm.Cond.static ({ cls := "CrossedSheet", name := "letterOrNone", desc := "(I)I" } : Jvm.MethodName)) ∈ TW := TWm 757 (by decide +kernel) (by decide +kernel)
theorem mw_758 : (Jvm.Cond.code ({ cls := "CrossedSheet", name := "letterOrNone", desc := "(I)I" } : Jvm.MethodName) prog_1_method_52_code (1 : Nat) (Option.some Jvm.ClassFile.FieldType.int)) ∈ TW := TWm 758 (by decide +kernel) (by decide +kernel)
theorem mw_836 : (Jvm.Cond.methodLink "CrossedSheet$Sheet" (118 : Nat) ({ cls := "CrossedSheet$Sheet", name := "otherHasDecision", desc := "(IIII)Z" } : Jvm.MethodName)) ∈ TW := TWm 836 (by decide +kernel) (by decide +kernel)
theorem mw_911 : (Jvm.Cond.methodLink "CrossedSheet$Sheet" (122 : Nat) ({ cls := "CrossedSheet$Sheet", name := "takeFrom", desc := "(LCrossedSheet$Sheet;)V" } : Jvm.MethodName)) ∈ TW := TWm 911 (by decide +kernel) (by decide +kernel)
theorem mw_912 : (Jvm.Cond.methodLink "CrossedSheet$Sheet" (125 : Nat) ({ cls := "CrossedSheet$Sheet", name := "turnCell", desc := "(LCrossedSheet$Sheet;II)V" } : Jvm.MethodName)) ∈ TW := TWm 912 (by decide +kernel) (by decide +kernel)
theorem mw_914 : (Jvm.Cond.instanceMethod ({ cls := "CrossedSheet$Sheet", name := "turnCell", desc := "(LCrossedSheet$Sheet;II)V" } : Jvm.MethodName)) ∈ TW := TWm 914 (by decide +kernel) (by decide +kernel)
theorem mw_915 : (Jvm.Cond.code ({ cls := "CrossedSheet$Sheet", name := "turnCell", desc := "(LCrossedSheet$Sheet;II)V" } : Jvm.MethodName) prog_5_method_21_code (9 : Nat) (Option.none : Option Jvm.ClassFile.FieldType)) ∈ TW := TWm 915 (by decide +kernel) (by decide +kernel)
theorem fl_X1_9 : zF RX1 9 1 0 (.array .int) true := ⟨RX1, TX1, 1, tyX1, rfl, inTX1, by decide, mw_55, by decide +kernel, tyX1_ok, nmX1, rfl⟩
theorem fl_X3_14 : zF RX3 14 3 4 (.object "CrossedSheet$Numbers") true := ⟨RX3, TX3, 12, tyX3, rfl, inTX3, by decide, mw_130, by decide +kernel, tyX3_ok, nmX3, rfl⟩
theorem fl_X3_20 : zF RX3 20 3 5 (.object "CrossedSheet$Numbers") true := ⟨RX3, TX3, 12, tyX3, rfl, inTX3, by decide, mw_132, by decide +kernel, tyX3_ok, nmX3, rfl⟩
theorem fl_X3_23 : zF RX3 23 3 6 (.object "CrossedSheet$Numbers") true := ⟨RX3, TX3, 12, tyX3, rfl, inTX3, by decide, mw_134, by decide +kernel, tyX3_ok, nmX3, rfl⟩
theorem fl_X3_26 : zF RX3 26 3 7 (.object "CrossedSheet$Numbers") true := ⟨RX3, TX3, 12, tyX3, rfl, inTX3, by decide, mw_137, by decide +kernel, tyX3_ok, nmX3, rfl⟩
theorem fl_X3_29 : zF RX3 29 3 8 (.object "CrossedSheet$Numbers") true := ⟨RX3, TX3, 12, tyX3, rfl, inTX3, by decide, mw_138, by decide +kernel, tyX3_ok, nmX3, rfl⟩
theorem fl_X3_32 : zF RX3 32 3 9 (.object "CrossedSheet$Numbers") true := ⟨RX3, TX3, 12, tyX3, rfl, inTX3, by decide, mw_141, by decide +kernel, tyX3_ok, nmX3, rfl⟩
theorem fl_X3_35 : zF RX3 35 3 10 (.object "CrossedSheet$Numbers") true := ⟨RX3, TX3, 12, tyX3, rfl, inTX3, by decide, mw_143, by decide +kernel, tyX3_ok, nmX3, rfl⟩
theorem fl_X3_38 : zF RX3 38 3 11 (.object "CrossedSheet$Numbers") true := ⟨RX3, TX3, 12, tyX3, rfl, inTX3, by decide, mw_145, by decide +kernel, tyX3_ok, nmX3, rfl⟩
theorem fl_X3_48 : zF RX3 48 3 2 .int false := ⟨RX3, TX3, 12, tyX3, rfl, inTX3, by decide, mw_124, by decide +kernel, tyX3_ok, nmX3, rfl⟩
theorem fl_X3_52 : zF RX3 52 3 3 .int false := ⟨RX3, TX3, 12, tyX3, rfl, inTX3, by decide, mw_127, by decide +kernel, tyX3_ok, nmX3, rfl⟩
theorem fl_X3_62 : zF RX3 62 3 0 .int false := ⟨RX3, TX3, 12, tyX3, rfl, inTX3, by decide, mw_117, by decide +kernel, tyX3_ok, nmX3, rfl⟩
theorem fl_X3_65 : zF RX3 65 3 1 .int false := ⟨RX3, TX3, 12, tyX3, rfl, inTX3, by decide, mw_121, by decide +kernel, tyX3_ok, nmX3, rfl⟩
theorem yv_X1_at : yX1_at.cls = RX1 ∧ yX1_at.cls ≠ "java/lang/invoke/MethodHandle" ∧ yX1_at.cls ≠ "java/lang/invoke/VarHandle" ∧ (parseMethodDescriptor yX1_at.desc).map (fun d => d.parameters.length) = some 1 := by decide +kernel
theorem yv_X1_fill : yX1_fill.cls = RX1 ∧ yX1_fill.cls ≠ "java/lang/invoke/MethodHandle" ∧ yX1_fill.cls ≠ "java/lang/invoke/VarHandle" ∧ (parseMethodDescriptor yX1_fill.desc).map (fun d => d.parameters.length) = some 1 := by decide +kernel
theorem yv_X1_put : yX1_put.cls = RX1 ∧ yX1_put.cls ≠ "java/lang/invoke/MethodHandle" ∧ yX1_put.cls ≠ "java/lang/invoke/VarHandle" ∧ (parseMethodDescriptor yX1_put.desc).map (fun d => d.parameters.length) = some 2 := by decide +kernel
theorem yv_X1_takeFrom : yX1_takeFrom.cls = RX1 ∧ yX1_takeFrom.cls ≠ "java/lang/invoke/MethodHandle" ∧ yX1_takeFrom.cls ≠ "java/lang/invoke/VarHandle" ∧ (parseMethodDescriptor yX1_takeFrom.desc).map (fun d => d.parameters.length) = some 1 := by decide +kernel
theorem yv_X3_columnHasRoom : yX3_columnHasRoom.cls = RX3 ∧ yX3_columnHasRoom.cls ≠ "java/lang/invoke/MethodHandle" ∧ yX3_columnHasRoom.cls ≠ "java/lang/invoke/VarHandle" ∧ (parseMethodDescriptor yX3_columnHasRoom.desc).map (fun d => d.parameters.length) = some 1 := by decide +kernel
theorem yv_X3_decisionOf : yX3_decisionOf.cls = RX3 ∧ yX3_decisionOf.cls ≠ "java/lang/invoke/MethodHandle" ∧ yX3_decisionOf.cls ≠ "java/lang/invoke/VarHandle" ∧ (parseMethodDescriptor yX3_decisionOf.desc).map (fun d => d.parameters.length) = some 3 := by decide +kernel
theorem yv_X3_distance : yX3_distance.cls = RX3 ∧ yX3_distance.cls ≠ "java/lang/invoke/MethodHandle" ∧ yX3_distance.cls ≠ "java/lang/invoke/VarHandle" ∧ (parseMethodDescriptor yX3_distance.desc).map (fun d => d.parameters.length) = some 2 := by decide +kernel
theorem yv_X3_hasCell : yX3_hasCell.cls = RX3 ∧ yX3_hasCell.cls ≠ "java/lang/invoke/MethodHandle" ∧ yX3_hasCell.cls ≠ "java/lang/invoke/VarHandle" ∧ (parseMethodDescriptor yX3_hasCell.desc).map (fun d => d.parameters.length) = some 2 := by decide +kernel
theorem yv_X3_hasMark : yX3_hasMark.cls = RX3 ∧ yX3_hasMark.cls ≠ "java/lang/invoke/MethodHandle" ∧ yX3_hasMark.cls ≠ "java/lang/invoke/VarHandle" ∧ (parseMethodDescriptor yX3_hasMark.desc).map (fun d => d.parameters.length) = some 3 := by decide +kernel
theorem yv_X3_hasRoom : yX3_hasRoom.cls = RX3 ∧ yX3_hasRoom.cls ≠ "java/lang/invoke/MethodHandle" ∧ yX3_hasRoom.cls ≠ "java/lang/invoke/VarHandle" ∧ (parseMethodDescriptor yX3_hasRoom.desc).map (fun d => d.parameters.length) = some 2 := by decide +kernel
theorem yv_X3_leaningOf : yX3_leaningOf.cls = RX3 ∧ yX3_leaningOf.cls ≠ "java/lang/invoke/MethodHandle" ∧ yX3_leaningOf.cls ≠ "java/lang/invoke/VarHandle" ∧ (parseMethodDescriptor yX3_leaningOf.desc).map (fun d => d.parameters.length) = some 2 := by decide +kernel
theorem yv_X3_marksIn : yX3_marksIn.cls = RX3 ∧ yX3_marksIn.cls ≠ "java/lang/invoke/MethodHandle" ∧ yX3_marksIn.cls ≠ "java/lang/invoke/VarHandle" ∧ (parseMethodDescriptor yX3_marksIn.desc).map (fun d => d.parameters.length) = some 2 := by decide +kernel
theorem yv_X3_otherHasDecision : yX3_otherHasDecision.cls = RX3 ∧ yX3_otherHasDecision.cls ≠ "java/lang/invoke/MethodHandle" ∧ yX3_otherHasDecision.cls ≠ "java/lang/invoke/VarHandle" ∧ (parseMethodDescriptor yX3_otherHasDecision.desc).map (fun d => d.parameters.length) = some 4 := by decide +kernel
theorem yv_X3_putLetter : yX3_putLetter.cls = RX3 ∧ yX3_putLetter.cls ≠ "java/lang/invoke/MethodHandle" ∧ yX3_putLetter.cls ≠ "java/lang/invoke/VarHandle" ∧ (parseMethodDescriptor yX3_putLetter.desc).map (fun d => d.parameters.length) = some 4 := by decide +kernel
theorem yv_X3_putMark : yX3_putMark.cls = RX3 ∧ yX3_putMark.cls ≠ "java/lang/invoke/MethodHandle" ∧ yX3_putMark.cls ≠ "java/lang/invoke/VarHandle" ∧ (parseMethodDescriptor yX3_putMark.desc).map (fun d => d.parameters.length) = some 5 := by decide +kernel
theorem yv_X3_putSize : yX3_putSize.cls = RX3 ∧ yX3_putSize.cls ≠ "java/lang/invoke/MethodHandle" ∧ yX3_putSize.cls ≠ "java/lang/invoke/VarHandle" ∧ (parseMethodDescriptor yX3_putSize.desc).map (fun d => d.parameters.length) = some 2 := by decide +kernel
theorem yv_X3_takeFrom : yX3_takeFrom.cls = RX3 ∧ yX3_takeFrom.cls ≠ "java/lang/invoke/MethodHandle" ∧ yX3_takeFrom.cls ≠ "java/lang/invoke/VarHandle" ∧ (parseMethodDescriptor yX3_takeFrom.desc).map (fun d => d.parameters.length) = some 1 := by decide +kernel
theorem yv_X3_turnCell : yX3_turnCell.cls = RX3 ∧ yX3_turnCell.cls ≠ "java/lang/invoke/MethodHandle" ∧ yX3_turnCell.cls ≠ "java/lang/invoke/VarHandle" ∧ (parseMethodDescriptor yX3_turnCell.desc).map (fun d => d.parameters.length) = some 3 := by decide +kernel
theorem ys_X6_cellOf : yX6_cellOf.cls ≠ "java/lang/invoke/MethodHandle" ∧ yX6_cellOf.cls ≠ "java/lang/invoke/VarHandle" ∧ (parseMethodDescriptor yX6_cellOf.desc).map (fun d => d.parameters.length) = some 2 := by decide +kernel
theorem ys_X6_isLetter : yX6_isLetter.cls ≠ "java/lang/invoke/MethodHandle" ∧ yX6_isLetter.cls ≠ "java/lang/invoke/VarHandle" ∧ (parseMethodDescriptor yX6_isLetter.desc).map (fun d => d.parameters.length) = some 1 := by decide +kernel
theorem ys_X6_letterOrNone : yX6_letterOrNone.cls ≠ "java/lang/invoke/MethodHandle" ∧ yX6_letterOrNone.cls ≠ "java/lang/invoke/VarHandle" ∧ (parseMethodDescriptor yX6_letterOrNone.desc).map (fun d => d.parameters.length) = some 1 := by decide +kernel
theorem ys_X6_placeOf : yX6_placeOf.cls ≠ "java/lang/invoke/MethodHandle" ∧ yX6_placeOf.cls ≠ "java/lang/invoke/VarHandle" ∧ (parseMethodDescriptor yX6_placeOf.desc).map (fun d => d.parameters.length) = some 3 := by decide +kernel
theorem cw_X6_204 : GoodIn TW (va_wsS RX6 204 yX6_cellOf (.code yX6_cellOf cX6_cellOf 2 (some .int) :: TW)) := zGS mw_410 mw_393 mw_26 mw_394
theorem cw_X6_313 : GoodIn TW (va_wsS RX6 313 yX6_isLetter (.code yX6_isLetter cX6_isLetter 1 (some .boolean) :: TW)) := zGS mw_612 mw_544 mw_26 mw_545
theorem cw_X3_44 : GoodIn TW (wsV RX3 44 RX3 yX3_putSize (.code yX3_putSize cX3_putSize 3 none :: TW)) := zGV mw_100 mw_101 mw_102 mw_29 mw_103
theorem cw_X3_55 : GoodIn TW (wsV RX3 55 RX3 yX3_putLetter (.code yX3_putLetter cX3_putLetter 5 none :: TW)) := zGV mw_104 mw_105 mw_106 mw_29 mw_107
theorem cw_X3_59 : GoodIn TW (wsV RX3 59 RX1 yX1_fill (.code yX1_fill cX1_fill 3 none :: TW)) := zGV mw_112 mw_113 mw_114 mw_27 mw_115
theorem cw_X3_68 : GoodIn TW (wsV RX3 68 RX1 yX1_takeFrom (.code yX1_takeFrom cX1_takeFrom 2 none :: TW)) := zGV mw_368 mw_369 mw_370 mw_27 mw_371
theorem cw_X3_72 : GoodIn TW (wsV RX3 72 RX1 yX1_put (.code yX1_put cX1_put 3 none :: TW)) := zGV mw_108 mw_109 mw_110 mw_27 mw_111
theorem cw_X3_75 : GoodIn TW (wsV RX3 75 RX3 yX3_hasCell (.code yX3_hasCell cX3_hasCell 3 (some .boolean) :: TW)) := zGV mw_388 mw_389 mw_390 mw_29 mw_391
theorem cw_X3_79 : GoodIn TW (.code yX6_cellOf cX6_cellOf 2 (some .int) :: TW) := zGI mw_394
theorem nw_X3_79 : (RX3, 79, yX6_cellOf, "CrossedSheet") ∈ NWl := by decide +kernel
theorem cw_X3_83 : GoodIn TW (wsV RX3 83 RX1 yX1_at (.code yX1_at cX1_at 2 (some .int) :: TW)) := zGV mw_395 mw_396 mw_397 mw_27 mw_398
theorem cw_X3_87 : GoodIn TW (wsV RX3 87 RX3 yX3_hasRoom (.code yX3_hasRoom cX3_hasRoom 3 (some .boolean) :: TW)) := zGV mw_424 mw_385 mw_386 mw_29 mw_387
theorem cw_X3_90 : GoodIn TW (wsV RX3 90 RX3 yX3_columnHasRoom (.code yX3_columnHasRoom cX3_columnHasRoom 3 (some .boolean) :: TW)) := zGV mw_537 mw_538 mw_539 mw_29 mw_540
theorem cw_X3_94 : GoodIn TW (wsV RX3 94 RX3 yX3_marksIn (.code yX3_marksIn cX3_marksIn 3 (some .int) :: TW)) := zGV mw_415 mw_416 mw_417 mw_29 mw_418
theorem cw_X3_97 : GoodIn TW (.code yX6_placeOf cX6_placeOf 3 (some .int) :: TW) := zGI mw_409
theorem nw_X3_97 : (RX3, 97, yX6_placeOf, "CrossedSheet") ∈ NWl := by decide +kernel
theorem cw_X3_101 : GoodIn TW (wsV RX3 101 RX3 yX3_putMark (.code yX3_putMark cX3_putMark 6 none :: TW)) := zGV mw_411 mw_413 mw_2 mw_29 mw_414
theorem cw_X3_105 : GoodIn TW (wsV RX3 105 RX3 yX3_hasMark (.code yX3_hasMark cX3_hasMark 4 (some .boolean) :: TW)) := zGV mw_403 mw_404 mw_405 mw_29 mw_406
theorem cw_X3_109 : GoodIn TW (.code yX6_isLetter cX6_isLetter 1 (some .boolean) :: TW) := zGI mw_545
theorem nw_X3_109 : (RX3, 109, yX6_isLetter, "CrossedSheet") ∈ NWl := by decide +kernel
theorem cw_X3_112 : GoodIn TW (wsV RX3 112 RX3 yX3_decisionOf (.code yX3_decisionOf cX3_decisionOf 4 (some .int) :: TW)) := zGV mw_435 mw_437 mw_3 mw_29 mw_438
theorem cw_X3_115 : GoodIn TW (.code yX6_letterOrNone cX6_letterOrNone 1 (some .int) :: TW) := zGI mw_758
theorem nw_X3_115 : (RX3, 115, yX6_letterOrNone, "CrossedSheet") ∈ NWl := by decide +kernel
theorem cw_X3_118 : GoodIn TW (wsV RX3 118 RX3 yX3_otherHasDecision (.code yX3_otherHasDecision cX3_otherHasDecision 5 (some .boolean) :: TW)) := zGV mw_836 mw_747 mw_748 mw_29 mw_749
theorem cw_X3_122 : GoodIn TW (wsV RX3 122 RX3 yX3_takeFrom (.code yX3_takeFrom cX3_takeFrom 2 none :: TW)) := zGV mw_911 mw_365 mw_366 mw_29 mw_367
theorem cw_X3_125 : GoodIn TW (wsV RX3 125 RX3 yX3_turnCell (.code yX3_turnCell cX3_turnCell 9 none :: TW)) := zGV mw_912 mw_914 mw_17 mw_29 mw_915
theorem cw_X3_134 : GoodIn TW (wsV RX3 134 RX3 yX3_distance (.code yX3_distance cX3_distance 3 (some .int) :: TW)) := zGV mw_443 mw_444 mw_445 mw_29 mw_446
theorem cw_X3_137 : GoodIn TW (wsV RX3 137 RX3 yX3_leaningOf (.code yX3_leaningOf cX3_leaningOf 6 (some .int) :: TW)) := zGV mw_439 mw_441 mw_4 mw_29 mw_442
theorem dX1_at_0 : decode cX1_at 0 = .ok (.iload_n 1, 1) := by decide +kernel
theorem dX1_at_1 : decode cX1_at 1 = .ok (.ifCond .lt 21, 3) := by decide +kernel
theorem dX1_at_4 : decode cX1_at 4 = .ok (.iload_n 1, 1) := by decide +kernel
theorem dX1_at_5 : decode cX1_at 5 = .ok (.aload_n 0, 1) := by decide +kernel
theorem dX1_at_6 : decode cX1_at 6 = .ok (.getfield 9, 3) := by decide +kernel
theorem dX1_at_9 : decode cX1_at 9 = .ok (.arraylength, 1) := by decide +kernel
theorem dX1_at_10 : decode cX1_at 10 = .ok (.if_icmp .ge 12, 3) := by decide +kernel
theorem dX1_at_13 : decode cX1_at 13 = .ok (.aload_n 0, 1) := by decide +kernel
theorem dX1_at_14 : decode cX1_at 14 = .ok (.getfield 9, 3) := by decide +kernel
theorem dX1_at_17 : decode cX1_at 17 = .ok (.iload_n 1, 1) := by decide +kernel
theorem dX1_at_18 : decode cX1_at 18 = .ok (.iaload, 1) := by decide +kernel
theorem dX1_at_19 : decode cX1_at 19 = .ok (.goto 5, 3) := by decide +kernel
theorem dX1_at_22 : decode cX1_at 22 = .ok (.bipush (-9), 2) := by decide +kernel
theorem dX1_at_24 : decode cX1_at 24 = .ok (.ireturn, 1) := by decide +kernel
def FX1_at (T : zT) (a0 : Nat) (p0 : Int32) (h : zH) : Option Int32 := (zo h a0 1).bind fun _ => zJ (fun (x1 : Int32) => some x1) (fun J2 => zJ (fun (u9 : Unit) => J2 (-9 : Int32)) (fun J3 => if p0 < 0 then (J3 ()) else ((zgr h a0 1 0).bind fun x4 => (zln T h x4).bind fun x5 => if x5 ≤ p0 then (J3 ()) else ((zgr h a0 1 0).bind fun x6 => (zai T h x6 p0).bind fun x7 => J2 x7))))
set_option maxHeartbeats 4000000 in
set_option maxRecDepth 100000 in
theorem BX1_at {X : zX} (C : zC X cX1_at 2 RX1 "at" (some .int) 0 0) {al : Bool} {hi : Nat} {h : zH} {a0 : Nat} {p0 : Int32} {r9 : Int32} (hf : FX1_at (xT X) a0 p0 h = some r9) : zW X 2 (zZ X al (some (.int r9), hi, h)) 0 0 al hi h 0 [(0, .ref a0), (1, .int p0)] [] := by
  unfold FX1_at at hf
  obtain ⟨_, _, hf⟩ := zbind hf
  refine z_join (P := fun J => ∀ (x1 : Int32), J x1 = some r9 → zW X 2 (zZ X al (some (.int r9), hi, h)) 0 0 al hi h 24 [] [.int x1]) hf ?_ ?_
  · intro x1 hf
    exact z_ireturn C dX1_at_24 (by cases hf; rfl)
  · intro J2 kJ2 hf
    refine z_join (P := fun J => ∀ (u9 : Unit), J u9 = some r9 → zW X 2 (zZ X al (some (.int r9), hi, h)) 0 0 al hi h 22 [] []) hf ?_ ?_
    · intro u9 hf
      refine z_bipush C (v := (-9 : Int32)) dX1_at_22 (by decide) ?_
      exact kJ2 _ hf
    · intro J3 kJ3 hf
      refine z_iload_n C dX1_at_0 1 rfl rfl ?_
      refine z_if_lt (tgt := 22) C dX1_at_1 (by decide) hf (fun hf => ?_) (fun hf => ?_)
      · refine z_sub [] rfl ?_
        exact kJ3 _ hf
      · refine z_iload_n C dX1_at_4 1 rfl rfl ?_
        refine z_aload_n C dX1_at_5 0 rfl rfl ?_
        refine z_getR C fl_X1_9 dX1_at_6 hf (fun x4 hf => ?_)
        refine z_alen C dX1_at_9 hf (fun x5 hf => ?_)
        refine z_icmp_ge (tgt := 22) C dX1_at_10 (by decide) hf (fun hf => ?_) (fun hf => ?_)
        · refine z_sub [] rfl ?_
          exact kJ3 _ hf
        · refine z_aload_n C dX1_at_13 0 rfl rfl ?_
          refine z_getR C fl_X1_9 dX1_at_14 hf (fun x6 hf => ?_)
          refine z_iload_n C dX1_at_17 1 rfl rfl ?_
          refine z_iaload C dX1_at_18 hf (fun x7 hf => ?_)
          refine z_goto (tgt := 24) C dX1_at_19 (by decide) ?_
          refine z_sub [] rfl ?_
          exact kJ2 _ hf
theorem MX1_at (l : Launch) (D : va_G) (T : zT) (lo : Nat) (al : Bool) (hi : Nat) {h : zH} {a0 : Nat} {p0 : Int32} {v9 : Int32} (hf : FX1_at T a0 p0 h = some v9) : zM l yX1_at (.code yX1_at cX1_at 2 (some .int) :: TW) ({ frames := 0, cells := 0, slots := 0, locals := 0 } : Room) D T lo al [.ref a0, .int p0] hi h (some (.int v9), hi, h) :=
  z_enter (own := RX1) (nm := "at") (lv := [(0, .ref a0), (1, .int p0)]) (by decide +kernel) rfl rfl (Nat.le_of_ble_eq_true rfl) rfl (fun _ _ _ _ _ _ _ _ C => BX1_at C hf)
theorem OX1_at {T : zT} {h : zH} {a0 : Nat} {p0 : Int32} {r9 : Int32} (hf : FX1_at T a0 p0 h = some r9) : ∃ fs, h a0 = some (.inr (1, fs)) := by
  obtain ⟨_, h1, _⟩ := zbind hf
  exact zo_obj h1
theorem dX1_put_0 : decode cX1_put 0 = .ok (.iload_n 1, 1) := by decide +kernel
theorem dX1_put_1 : decode cX1_put 1 = .ok (.ifCond .lt 19, 3) := by decide +kernel
theorem dX1_put_4 : decode cX1_put 4 = .ok (.iload_n 1, 1) := by decide +kernel
theorem dX1_put_5 : decode cX1_put 5 = .ok (.aload_n 0, 1) := by decide +kernel
theorem dX1_put_6 : decode cX1_put 6 = .ok (.getfield 9, 3) := by decide +kernel
theorem dX1_put_9 : decode cX1_put 9 = .ok (.arraylength, 1) := by decide +kernel
theorem dX1_put_10 : decode cX1_put 10 = .ok (.if_icmp .ge 10, 3) := by decide +kernel
theorem dX1_put_13 : decode cX1_put 13 = .ok (.aload_n 0, 1) := by decide +kernel
theorem dX1_put_14 : decode cX1_put 14 = .ok (.getfield 9, 3) := by decide +kernel
theorem dX1_put_17 : decode cX1_put 17 = .ok (.iload_n 1, 1) := by decide +kernel
theorem dX1_put_18 : decode cX1_put 18 = .ok (.iload_n 2, 1) := by decide +kernel
theorem dX1_put_19 : decode cX1_put 19 = .ok (.iastore, 1) := by decide +kernel
theorem dX1_put_20 : decode cX1_put 20 = .ok (.return_, 1) := by decide +kernel
def FX1_put (T : zT) (a0 : Nat) (p0 : Int32) (p1 : Int32) (h : zH) : Option zH := (zo h a0 1).bind fun _ => zJ (fun (h1 : zH) => some h1) (fun J2 => if p0 < 0 then (J2 h) else ((zgr h a0 1 0).bind fun x3 => (zln T h x3).bind fun x4 => if x4 ≤ p0 then (J2 h) else ((zgr h a0 1 0).bind fun x5 => (zas T h x5 p0 p1).bind fun h6 => J2 h6)))
set_option maxHeartbeats 4000000 in
set_option maxRecDepth 100000 in
theorem BX1_put {X : zX} (C : zC X cX1_put 3 RX1 "put" none 0 0) {al : Bool} {hi : Nat} {h : zH} {a0 : Nat} {p0 : Int32} {p1 : Int32} {r9 : zH} (hf : FX1_put (xT X) a0 p0 p1 h = some r9) : zW X 3 (zZ X al (none, hi, r9)) 0 0 al hi h 0 [(0, .ref a0), (1, .int p0), (2, .int p1)] [] := by
  unfold FX1_put at hf
  obtain ⟨_, _, hf⟩ := zbind hf
  refine z_join (P := fun J => ∀ (h1 : zH), J h1 = some r9 → zW X 3 (zZ X al (none, hi, r9)) 0 0 al hi h1 20 [] []) hf ?_ ?_
  · intro h1 hf
    exact z_vreturn C dX1_put_20 (by cases hf; rfl)
  · intro J2 kJ2 hf
    refine z_iload_n C dX1_put_0 1 rfl rfl ?_
    refine z_if_lt (tgt := 20) C dX1_put_1 (by decide) hf (fun hf => ?_) (fun hf => ?_)
    · refine z_sub [] rfl ?_
      exact kJ2 _ hf
    · refine z_iload_n C dX1_put_4 1 rfl rfl ?_
      refine z_aload_n C dX1_put_5 0 rfl rfl ?_
      refine z_getR C fl_X1_9 dX1_put_6 hf (fun x3 hf => ?_)
      refine z_alen C dX1_put_9 hf (fun x4 hf => ?_)
      refine z_icmp_ge (tgt := 20) C dX1_put_10 (by decide) hf (fun hf => ?_) (fun hf => ?_)
      · refine z_sub [] rfl ?_
        exact kJ2 _ hf
      · refine z_aload_n C dX1_put_13 0 rfl rfl ?_
        refine z_getR C fl_X1_9 dX1_put_14 hf (fun x5 hf => ?_)
        refine z_iload_n C dX1_put_17 1 rfl rfl ?_
        refine z_iload_n C dX1_put_18 2 rfl rfl ?_
        refine z_iastore C dX1_put_19 hf (fun h6 hf => ?_)
        refine z_sub [] rfl ?_
        exact kJ2 _ hf
theorem MX1_put (l : Launch) (D : va_G) (T : zT) (lo : Nat) (al : Bool) (hi : Nat) {h : zH} {a0 : Nat} {p0 : Int32} {p1 : Int32} {h9 : zH} (hf : FX1_put T a0 p0 p1 h = some h9) : zM l yX1_put (.code yX1_put cX1_put 3 none :: TW) ({ frames := 0, cells := 0, slots := 0, locals := 0 } : Room) D T lo al [.ref a0, .int p0, .int p1] hi h (none, hi, h9) :=
  z_enter (own := RX1) (nm := "put") (lv := [(0, .ref a0), (1, .int p0), (2, .int p1)]) (by decide +kernel) rfl rfl (Nat.le_of_ble_eq_true rfl) rfl (fun _ _ _ _ _ _ _ _ C => BX1_put C hf)
theorem OX1_put {T : zT} {h : zH} {a0 : Nat} {p0 : Int32} {p1 : Int32} {r9 : zH} (hf : FX1_put T a0 p0 p1 h = some r9) : ∃ fs, h a0 = some (.inr (1, fs)) := by
  obtain ⟨_, h1, _⟩ := zbind hf
  exact zo_obj h1
theorem dX1_fill_0 : decode cX1_fill 0 = .ok (.iconst 0, 1) := by decide +kernel
theorem dX1_fill_1 : decode cX1_fill 1 = .ok (.istore_n 2, 1) := by decide +kernel
theorem dX1_fill_2 : decode cX1_fill 2 = .ok (.iload_n 2, 1) := by decide +kernel
theorem dX1_fill_3 : decode cX1_fill 3 = .ok (.aload_n 0, 1) := by decide +kernel
theorem dX1_fill_4 : decode cX1_fill 4 = .ok (.getfield 9, 3) := by decide +kernel
theorem dX1_fill_7 : decode cX1_fill 7 = .ok (.arraylength, 1) := by decide +kernel
theorem dX1_fill_8 : decode cX1_fill 8 = .ok (.if_icmp .ge 16, 3) := by decide +kernel
theorem dX1_fill_11 : decode cX1_fill 11 = .ok (.aload_n 0, 1) := by decide +kernel
theorem dX1_fill_12 : decode cX1_fill 12 = .ok (.getfield 9, 3) := by decide +kernel
theorem dX1_fill_15 : decode cX1_fill 15 = .ok (.iload_n 2, 1) := by decide +kernel
theorem dX1_fill_16 : decode cX1_fill 16 = .ok (.iload_n 1, 1) := by decide +kernel
theorem dX1_fill_17 : decode cX1_fill 17 = .ok (.iastore, 1) := by decide +kernel
theorem dX1_fill_18 : decode cX1_fill 18 = .ok (.iinc 2 1, 3) := by decide +kernel
theorem dX1_fill_21 : decode cX1_fill 21 = .ok (.goto (-19), 3) := by decide +kernel
theorem dX1_fill_24 : decode cX1_fill 24 = .ok (.return_, 1) := by decide +kernel
def LX1_fill_2 {ρ : Type} (T : zT) (x1 : Nat) (x2 : Int32) (K0 : zH → Option ρ) : Nat → Int32 → zH → Option ρ
  | 0, _, _ => none
  | k + 1, x3, h4 => (zgr h4 x1 1 0).bind fun x5 => (zln T h4 x5).bind fun x6 => if x6 ≤ x3 then (K0 h4) else ((zgr h4 x1 1 0).bind fun x7 => (zas T h4 x7 x3 x2).bind fun h8 => LX1_fill_2 T x1 x2 K0 k (x3 + 1) h8)
set_option maxHeartbeats 4000000 in
set_option maxRecDepth 100000 in
theorem LX1_fill_2_ok {X : zX} (C : zC X cX1_fill 3 RX1 "fill" none 0 0) {Z : State → Prop} {al : Bool} {hi : Nat} {ρ : Type} {r9 : ρ} {x1 : Nat} {x2 : Int32} {K0 : zH → Option ρ} (hK0 : ∀ (g9 : zH), K0 g9 = some r9 → zW X 3 Z 0 0 al hi g9 24 [] []) : ∀ (k : Nat) (x3 : Int32) (h4 : zH), LX1_fill_2 (xT X) x1 x2 K0 k x3 h4 = some r9 → zW X 3 Z 0 0 al hi h4 2 [(0, .ref x1), (1, .int x2), (2, .int x3)] [] := by
  intro k
  induction k with
  | zero =>
    intro x3 h4 hf
    have hf : none = some r9 := hf
    cases hf
  | succ k ih =>
    intro x3 h4 hf
    rw [LX1_fill_2.eq_2] at hf
    refine z_iload_n C dX1_fill_2 2 rfl rfl ?_
    refine z_aload_n C dX1_fill_3 0 rfl rfl ?_
    refine z_getR C fl_X1_9 dX1_fill_4 hf (fun x5 hf => ?_)
    refine z_alen C dX1_fill_7 hf (fun x6 hf => ?_)
    refine z_icmp_ge (tgt := 24) C dX1_fill_8 (by decide) hf (fun hf => ?_) (fun hf => ?_)
    · refine z_sub [] rfl ?_
      exact hK0 _ hf
    · refine z_aload_n C dX1_fill_11 0 rfl rfl ?_
      refine z_getR C fl_X1_9 dX1_fill_12 hf (fun x7 hf => ?_)
      refine z_iload_n C dX1_fill_15 2 rfl rfl ?_
      refine z_iload_n C dX1_fill_16 1 rfl rfl ?_
      refine z_iastore C dX1_fill_17 hf (fun h8 hf => ?_)
      refine z_iinc C dX1_fill_18 (k := 2) (d := 1) rfl (by decide) (by decide) (lv' := [(2, .int (x3 + 1)), (0, .ref x1), (1, .int x2)]) rfl ?_
      refine z_goto (tgt := 2) C dX1_fill_21 (by decide) ?_
      refine z_sub [1, 2, 0] rfl ?_
      exact ih _ _ hf
def FX1_fill (T : zT) (a0 : Nat) (p0 : Int32) (h : zH) : Option zH := (zo h a0 1).bind fun _ => LX1_fill_2 T a0 p0 (fun (h9 : zH) => some h9) FUEL 0 h
set_option maxHeartbeats 4000000 in
set_option maxRecDepth 100000 in
theorem BX1_fill {X : zX} (C : zC X cX1_fill 3 RX1 "fill" none 0 0) {al : Bool} {hi : Nat} {h : zH} {a0 : Nat} {p0 : Int32} {r9 : zH} (hf : FX1_fill (xT X) a0 p0 h = some r9) : zW X 3 (zZ X al (none, hi, r9)) 0 0 al hi h 0 [(0, .ref a0), (1, .int p0)] [] := by
  unfold FX1_fill at hf
  obtain ⟨_, _, hf⟩ := zbind hf
  refine z_iconst C (v := 0) dX1_fill_0 (by decide) ?_
  refine z_istore_n C dX1_fill_1 rfl (by decide) (lv' := [(2, .int 0), (0, .ref a0), (1, .int p0)]) rfl ?_
  refine z_sub [1, 2, 0] rfl ?_
  refine LX1_fill_2_ok C ?_ FUEL _ _ hf
  · intro h9 hf
    exact z_vreturn C dX1_fill_24 (by cases hf; rfl)
theorem MX1_fill (l : Launch) (D : va_G) (T : zT) (lo : Nat) (al : Bool) (hi : Nat) {h : zH} {a0 : Nat} {p0 : Int32} {h9 : zH} (hf : FX1_fill T a0 p0 h = some h9) : zM l yX1_fill (.code yX1_fill cX1_fill 3 none :: TW) ({ frames := 0, cells := 0, slots := 0, locals := 0 } : Room) D T lo al [.ref a0, .int p0] hi h (none, hi, h9) :=
  z_enter (own := RX1) (nm := "fill") (lv := [(0, .ref a0), (1, .int p0)]) (by decide +kernel) rfl rfl (Nat.le_of_ble_eq_true rfl) rfl (fun _ _ _ _ _ _ _ _ C => BX1_fill C hf)
theorem OX1_fill {T : zT} {h : zH} {a0 : Nat} {p0 : Int32} {r9 : zH} (hf : FX1_fill T a0 p0 h = some r9) : ∃ fs, h a0 = some (.inr (1, fs)) := by
  obtain ⟨_, h1, _⟩ := zbind hf
  exact zo_obj h1
theorem dX1_takeFrom_0 : decode cX1_takeFrom 0 = .ok (.aload_n 1, 1) := by decide +kernel
theorem dX1_takeFrom_1 : decode cX1_takeFrom 1 = .ok (.ifnull 34, 3) := by decide +kernel
theorem dX1_takeFrom_4 : decode cX1_takeFrom 4 = .ok (.aload_n 1, 1) := by decide +kernel
theorem dX1_takeFrom_5 : decode cX1_takeFrom 5 = .ok (.getfield 9, 3) := by decide +kernel
theorem dX1_takeFrom_8 : decode cX1_takeFrom 8 = .ok (.arraylength, 1) := by decide +kernel
theorem dX1_takeFrom_9 : decode cX1_takeFrom 9 = .ok (.aload_n 0, 1) := by decide +kernel
theorem dX1_takeFrom_10 : decode cX1_takeFrom 10 = .ok (.getfield 9, 3) := by decide +kernel
theorem dX1_takeFrom_13 : decode cX1_takeFrom 13 = .ok (.arraylength, 1) := by decide +kernel
theorem dX1_takeFrom_14 : decode cX1_takeFrom 14 = .ok (.if_icmp .ne 21, 3) := by decide +kernel
theorem dX1_takeFrom_17 : decode cX1_takeFrom 17 = .ok (.aload_n 1, 1) := by decide +kernel
theorem dX1_takeFrom_18 : decode cX1_takeFrom 18 = .ok (.getfield 9, 3) := by decide +kernel
theorem dX1_takeFrom_21 : decode cX1_takeFrom 21 = .ok (.iconst 0, 1) := by decide +kernel
theorem dX1_takeFrom_22 : decode cX1_takeFrom 22 = .ok (.aload_n 0, 1) := by decide +kernel
theorem dX1_takeFrom_23 : decode cX1_takeFrom 23 = .ok (.getfield 9, 3) := by decide +kernel
theorem dX1_takeFrom_26 : decode cX1_takeFrom 26 = .ok (.iconst 0, 1) := by decide +kernel
theorem dX1_takeFrom_27 : decode cX1_takeFrom 27 = .ok (.aload_n 0, 1) := by decide +kernel
theorem dX1_takeFrom_28 : decode cX1_takeFrom 28 = .ok (.getfield 9, 3) := by decide +kernel
theorem dX1_takeFrom_31 : decode cX1_takeFrom 31 = .ok (.arraylength, 1) := by decide +kernel
theorem dX1_takeFrom_32 : decode cX1_takeFrom 32 = .ok (.invokestatic 15, 3) := by decide +kernel
theorem dX1_takeFrom_35 : decode cX1_takeFrom 35 = .ok (.return_, 1) := by decide +kernel
def FX1_takeFrom (T : zT) (a0 : Nat) (p0 : Nat) (h : zH) : Option zH := (zo h a0 1).bind fun _ => zJ (fun (h1 : zH) => some h1) (fun J2 => (zgr h p0 1 0).bind fun x3 => (zln T h x3).bind fun x4 => (zgr h a0 1 0).bind fun x5 => (zln T h x5).bind fun x6 => if x4 = x6 then ((zgr h p0 1 0).bind fun x7 => (zgr h a0 1 0).bind fun x8 => (zgr h a0 1 0).bind fun x9 => (zln T h x9).bind fun x10 => (zcp T h x7 0 x8 0 x10).bind fun h11 => J2 h11) else (J2 h))
set_option maxHeartbeats 4000000 in
set_option maxRecDepth 100000 in
theorem BX1_takeFrom {X : zX} (C : zC X cX1_takeFrom 2 RX1 "takeFrom" none 1 26) {hi : Nat} {h : zH} {a0 : Nat} {p0 : Nat} {r9 : zH} (hf : FX1_takeFrom (xT X) a0 p0 h = some r9) : zW X 2 (zZ X false (none, hi, r9)) 0 0 false hi h 0 [(0, .ref a0), (1, .ref p0)] [] := by
  unfold FX1_takeFrom at hf
  obtain ⟨_, _, hf⟩ := zbind hf
  refine z_join (P := fun J => ∀ (h1 : zH), J h1 = some r9 → zW X 2 (zZ X false (none, hi, r9)) 0 0 false hi h1 35 [] []) hf ?_ ?_
  · intro h1 hf
    exact z_vreturn C dX1_takeFrom_35 (by cases hf; rfl)
  · intro J2 kJ2 hf
    refine z_aload_n C dX1_takeFrom_0 1 rfl rfl ?_
    refine z_ifnull C dX1_takeFrom_1 ?_
    refine z_aload_n C dX1_takeFrom_4 1 rfl rfl ?_
    refine z_getR C fl_X1_9 dX1_takeFrom_5 hf (fun x3 hf => ?_)
    refine z_alen C dX1_takeFrom_8 hf (fun x4 hf => ?_)
    refine z_aload_n C dX1_takeFrom_9 0 rfl rfl ?_
    refine z_getR C fl_X1_9 dX1_takeFrom_10 hf (fun x5 hf => ?_)
    refine z_alen C dX1_takeFrom_13 hf (fun x6 hf => ?_)
    refine z_icmp_ne (tgt := 35) C dX1_takeFrom_14 (by decide) hf (fun hf => ?_) (fun hf => ?_)
    · refine z_sub [] rfl ?_
      exact kJ2 _ hf
    · refine z_aload_n C dX1_takeFrom_17 1 rfl rfl ?_
      refine z_getR C fl_X1_9 dX1_takeFrom_18 hf (fun x7 hf => ?_)
      refine z_iconst C (v := 0) dX1_takeFrom_21 (by decide) ?_
      refine z_aload_n C dX1_takeFrom_22 0 rfl rfl ?_
      refine z_getR C fl_X1_9 dX1_takeFrom_23 hf (fun x8 hf => ?_)
      refine z_iconst C (v := 0) dX1_takeFrom_26 (by decide) ?_
      refine z_aload_n C dX1_takeFrom_27 0 rfl rfl ?_
      refine z_getR C fl_X1_9 dX1_takeFrom_28 hf (fun x9 hf => ?_)
      refine z_alen C dX1_takeFrom_31 hf (fun x10 hf => ?_)
      refine z_copy C mw_372 mw_acn mw_acs mw_aci dX1_takeFrom_32 ⟨Nat.le_of_ble_eq_true rfl, Nat.le_of_ble_eq_true rfl⟩ hf (fun h11 hf => ?_)
      refine z_sub [] rfl ?_
      exact kJ2 _ hf
theorem MX1_takeFrom (l : Launch) (D : va_G) (T : zT) (lo : Nat) (hi : Nat) {h : zH} {a0 : Nat} {p0 : Nat} {h9 : zH} (hf : FX1_takeFrom T a0 p0 h = some h9) : zM l yX1_takeFrom (.code yX1_takeFrom cX1_takeFrom 2 none :: TW) ({ frames := 1, cells := 0, slots := 0, locals := 26 } : Room) D T lo false [.ref a0, .ref p0] hi h (none, hi, h9) :=
  z_enter (own := RX1) (nm := "takeFrom") (lv := [(0, .ref a0), (1, .ref p0)]) (by decide +kernel) rfl rfl (Nat.le_of_ble_eq_true rfl) rfl (fun _ _ _ _ _ _ _ _ C => BX1_takeFrom C hf)
theorem OX1_takeFrom {T : zT} {h : zH} {a0 : Nat} {p0 : Nat} {r9 : zH} (hf : FX1_takeFrom T a0 p0 h = some r9) : ∃ fs, h a0 = some (.inr (1, fs)) := by
  obtain ⟨_, h1, _⟩ := zbind hf
  exact zo_obj h1
theorem dX3_putSize_0 : decode cX3_putSize 0 = .ok (.aload_n 0, 1) := by decide +kernel
theorem dX3_putSize_1 : decode cX3_putSize 1 = .ok (.iload_n 1, 1) := by decide +kernel
theorem dX3_putSize_2 : decode cX3_putSize 2 = .ok (.putfield 62, 3) := by decide +kernel
theorem dX3_putSize_5 : decode cX3_putSize 5 = .ok (.aload_n 0, 1) := by decide +kernel
theorem dX3_putSize_6 : decode cX3_putSize 6 = .ok (.iload_n 2, 1) := by decide +kernel
theorem dX3_putSize_7 : decode cX3_putSize 7 = .ok (.putfield 65, 3) := by decide +kernel
theorem dX3_putSize_10 : decode cX3_putSize 10 = .ok (.return_, 1) := by decide +kernel
def FX3_putSize (T : zT) (a0 : Nat) (p0 : Int32) (p1 : Int32) (h : zH) : Option zH := (zo h a0 3).bind fun _ => (zpv h a0 3 0 (.int p0)).bind fun h1 => (zpv h1 a0 3 1 (.int p1)).bind fun h2 => some h2
set_option maxHeartbeats 4000000 in
set_option maxRecDepth 100000 in
theorem BX3_putSize {X : zX} (C : zC X cX3_putSize 3 RX3 "putSize" none 0 0) {al : Bool} {hi : Nat} {h : zH} {a0 : Nat} {p0 : Int32} {p1 : Int32} {r9 : zH} (hf : FX3_putSize (xT X) a0 p0 p1 h = some r9) : zW X 3 (zZ X al (none, hi, r9)) 0 0 al hi h 0 [(0, .ref a0), (1, .int p0), (2, .int p1)] [] := by
  unfold FX3_putSize at hf
  obtain ⟨_, _, hf⟩ := zbind hf
  refine z_aload_n C dX3_putSize_0 0 rfl rfl ?_
  refine z_iload_n C dX3_putSize_1 1 rfl rfl ?_
  refine z_put C fl_X3_62 dX3_putSize_2 rfl rfl hf (fun h1 hf => ?_)
  refine z_aload_n C dX3_putSize_5 0 rfl rfl ?_
  refine z_iload_n C dX3_putSize_6 2 rfl rfl ?_
  refine z_put C fl_X3_65 dX3_putSize_7 rfl rfl hf (fun h2 hf => ?_)
  exact z_vreturn C dX3_putSize_10 (by cases hf; rfl)
theorem MX3_putSize (l : Launch) (D : va_G) (T : zT) (lo : Nat) (al : Bool) (hi : Nat) {h : zH} {a0 : Nat} {p0 : Int32} {p1 : Int32} {h9 : zH} (hf : FX3_putSize T a0 p0 p1 h = some h9) : zM l yX3_putSize (.code yX3_putSize cX3_putSize 3 none :: TW) ({ frames := 0, cells := 0, slots := 0, locals := 0 } : Room) D T lo al [.ref a0, .int p0, .int p1] hi h (none, hi, h9) :=
  z_enter (own := RX3) (nm := "putSize") (lv := [(0, .ref a0), (1, .int p0), (2, .int p1)]) (by decide +kernel) rfl rfl (Nat.le_of_ble_eq_true rfl) rfl (fun _ _ _ _ _ _ _ _ C => BX3_putSize C hf)
theorem OX3_putSize {T : zT} {h : zH} {a0 : Nat} {p0 : Int32} {p1 : Int32} {r9 : zH} (hf : FX3_putSize T a0 p0 p1 h = some r9) : ∃ fs, h a0 = some (.inr (3, fs)) := by
  obtain ⟨_, h1, _⟩ := zbind hf
  exact zo_obj h1
theorem dX3_putLetter_0 : decode cX3_putLetter 0 = .ok (.aload_n 0, 1) := by decide +kernel
theorem dX3_putLetter_1 : decode cX3_putLetter 1 = .ok (.getfield 14, 3) := by decide +kernel
theorem dX3_putLetter_4 : decode cX3_putLetter 4 = .ok (.iload_n 1, 1) := by decide +kernel
theorem dX3_putLetter_5 : decode cX3_putLetter 5 = .ok (.iload_n 2, 1) := by decide +kernel
theorem dX3_putLetter_6 : decode cX3_putLetter 6 = .ok (.invokevirtual 72, 3) := by decide +kernel
theorem dX3_putLetter_9 : decode cX3_putLetter 9 = .ok (.aload_n 0, 1) := by decide +kernel
theorem dX3_putLetter_10 : decode cX3_putLetter 10 = .ok (.getfield 20, 3) := by decide +kernel
theorem dX3_putLetter_13 : decode cX3_putLetter 13 = .ok (.iload_n 1, 1) := by decide +kernel
theorem dX3_putLetter_14 : decode cX3_putLetter 14 = .ok (.iload_n 3, 1) := by decide +kernel
theorem dX3_putLetter_15 : decode cX3_putLetter 15 = .ok (.invokevirtual 72, 3) := by decide +kernel
theorem dX3_putLetter_18 : decode cX3_putLetter 18 = .ok (.aload_n 0, 1) := by decide +kernel
theorem dX3_putLetter_19 : decode cX3_putLetter 19 = .ok (.getfield 23, 3) := by decide +kernel
theorem dX3_putLetter_22 : decode cX3_putLetter 22 = .ok (.iload_n 1, 1) := by decide +kernel
theorem dX3_putLetter_23 : decode cX3_putLetter 23 = .ok (.iload 4, 2) := by decide +kernel
theorem dX3_putLetter_25 : decode cX3_putLetter 25 = .ok (.invokevirtual 72, 3) := by decide +kernel
theorem dX3_putLetter_28 : decode cX3_putLetter 28 = .ok (.return_, 1) := by decide +kernel
def FX3_putLetter (T : zT) (a0 : Nat) (p0 : Int32) (p1 : Int32) (p2 : Int32) (p3 : Int32) (h : zH) : Option zH := (zo h a0 3).bind fun _ => (zgr h a0 3 4).bind fun x1 => (FX1_put T x1 p0 p1 h).bind fun h3 => (zgr h3 a0 3 5).bind fun x4 => (FX1_put T x4 p0 p2 h3).bind fun h6 => (zgr h6 a0 3 6).bind fun x7 => (FX1_put T x7 p0 p3 h6).bind fun h9 => some h9
set_option maxHeartbeats 4000000 in
set_option maxRecDepth 100000 in
theorem BX3_putLetter {X : zX} (C : zC X cX3_putLetter 5 RX3 "putLetter" none 1 22) {al : Bool} {hi : Nat} {h : zH} {a0 : Nat} {p0 : Int32} {p1 : Int32} {p2 : Int32} {p3 : Int32} {r9 : zH} (hf : FX3_putLetter (xT X) a0 p0 p1 p2 p3 h = some r9) : zW X 5 (zZ X al (none, hi, r9)) 0 0 al hi h 0 [(0, .ref a0), (1, .int p0), (2, .int p1), (3, .int p2), (4, .int p3)] [] := by
  unfold FX3_putLetter at hf
  obtain ⟨_, _, hf⟩ := zbind hf
  refine z_aload_n C dX3_putLetter_0 0 rfl rfl ?_
  refine z_getR C fl_X3_14 dX3_putLetter_1 hf (fun x1 hf => ?_)
  refine z_iload_n C dX3_putLetter_4 1 rfl rfl ?_
  refine z_iload_n C dX3_putLetter_5 2 rfl rfl ?_
  obtain ⟨h3, g2, hf⟩ := zbind hf
  refine z_callV (kc' := 0) (ks' := 0) C (MX1_put (xl X) (xD X) (xT X) (xlo X) al hi g2) (OX1_put g2) rfl cw_X3_72 yv_X1_put dX3_putLetter_6 rfl (by decide) ⟨rfl, rfl⟩ (Nat.le_of_ble_eq_true rfl) (st := []) rfl ?_
  refine z_aload_n C dX3_putLetter_9 0 rfl rfl ?_
  refine z_getR C fl_X3_20 dX3_putLetter_10 hf (fun x4 hf => ?_)
  refine z_iload_n C dX3_putLetter_13 1 rfl rfl ?_
  refine z_iload_n C dX3_putLetter_14 3 rfl rfl ?_
  obtain ⟨h6, g5, hf⟩ := zbind hf
  refine z_callV (kc' := 0) (ks' := 0) C (MX1_put (xl X) (xD X) (xT X) (xlo X) al hi g5) (OX1_put g5) rfl cw_X3_72 yv_X1_put dX3_putLetter_15 rfl (by decide) ⟨rfl, rfl⟩ (Nat.le_of_ble_eq_true rfl) (st := []) rfl ?_
  refine z_aload_n C dX3_putLetter_18 0 rfl rfl ?_
  refine z_getR C fl_X3_23 dX3_putLetter_19 hf (fun x7 hf => ?_)
  refine z_iload_n C dX3_putLetter_22 1 rfl rfl ?_
  refine z_iload C dX3_putLetter_23 4 rfl ?_
  obtain ⟨h9, g8, hf⟩ := zbind hf
  refine z_callV (kc' := 0) (ks' := 0) C (MX1_put (xl X) (xD X) (xT X) (xlo X) al hi g8) (OX1_put g8) rfl cw_X3_72 yv_X1_put dX3_putLetter_25 rfl (by decide) ⟨rfl, rfl⟩ (Nat.le_of_ble_eq_true rfl) (st := []) rfl ?_
  exact z_vreturn C dX3_putLetter_28 (by cases hf; rfl)
theorem MX3_putLetter (l : Launch) (D : va_G) (T : zT) (lo : Nat) (al : Bool) (hi : Nat) {h : zH} {a0 : Nat} {p0 : Int32} {p1 : Int32} {p2 : Int32} {p3 : Int32} {h9 : zH} (hf : FX3_putLetter T a0 p0 p1 p2 p3 h = some h9) : zM l yX3_putLetter (.code yX3_putLetter cX3_putLetter 5 none :: TW) ({ frames := 1, cells := 0, slots := 0, locals := 22 } : Room) D T lo al [.ref a0, .int p0, .int p1, .int p2, .int p3] hi h (none, hi, h9) :=
  z_enter (own := RX3) (nm := "putLetter") (lv := [(0, .ref a0), (1, .int p0), (2, .int p1), (3, .int p2), (4, .int p3)]) (by decide +kernel) rfl rfl (Nat.le_of_ble_eq_true rfl) rfl (fun _ _ _ _ _ _ _ _ C => BX3_putLetter C hf)
theorem OX3_putLetter {T : zT} {h : zH} {a0 : Nat} {p0 : Int32} {p1 : Int32} {p2 : Int32} {p3 : Int32} {r9 : zH} (hf : FX3_putLetter T a0 p0 p1 p2 p3 h = some r9) : ∃ fs, h a0 = some (.inr (3, fs)) := by
  obtain ⟨_, h1, _⟩ := zbind hf
  exact zo_obj h1
theorem dX3_makeNew_0 : decode cX3_makeNew 0 = .ok (.aload_n 0, 1) := by decide +kernel
theorem dX3_makeNew_1 : decode cX3_makeNew 1 = .ok (.bipush 6, 2) := by decide +kernel
theorem dX3_makeNew_3 : decode cX3_makeNew 3 = .ok (.bipush 6, 2) := by decide +kernel
theorem dX3_makeNew_5 : decode cX3_makeNew 5 = .ok (.invokevirtual 44, 3) := by decide +kernel
theorem dX3_makeNew_8 : decode cX3_makeNew 8 = .ok (.aload_n 0, 1) := by decide +kernel
theorem dX3_makeNew_9 : decode cX3_makeNew 9 = .ok (.iconst 2, 1) := by decide +kernel
theorem dX3_makeNew_10 : decode cX3_makeNew 10 = .ok (.putfield 48, 3) := by decide +kernel
theorem dX3_makeNew_13 : decode cX3_makeNew 13 = .ok (.aload_n 0, 1) := by decide +kernel
theorem dX3_makeNew_14 : decode cX3_makeNew 14 = .ok (.iconst 2, 1) := by decide +kernel
theorem dX3_makeNew_15 : decode cX3_makeNew 15 = .ok (.putfield 52, 3) := by decide +kernel
theorem dX3_makeNew_18 : decode cX3_makeNew 18 = .ok (.aload_n 0, 1) := by decide +kernel
theorem dX3_makeNew_19 : decode cX3_makeNew 19 = .ok (.iconst 0, 1) := by decide +kernel
theorem dX3_makeNew_20 : decode cX3_makeNew 20 = .ok (.iconst 0, 1) := by decide +kernel
theorem dX3_makeNew_21 : decode cX3_makeNew 21 = .ok (.iconst 2, 1) := by decide +kernel
theorem dX3_makeNew_22 : decode cX3_makeNew 22 = .ok (.iconst 0, 1) := by decide +kernel
theorem dX3_makeNew_23 : decode cX3_makeNew 23 = .ok (.invokevirtual 55, 3) := by decide +kernel
theorem dX3_makeNew_26 : decode cX3_makeNew 26 = .ok (.aload_n 0, 1) := by decide +kernel
theorem dX3_makeNew_27 : decode cX3_makeNew 27 = .ok (.iconst 1, 1) := by decide +kernel
theorem dX3_makeNew_28 : decode cX3_makeNew 28 = .ok (.iconst 3, 1) := by decide +kernel
theorem dX3_makeNew_29 : decode cX3_makeNew 29 = .ok (.bipush 6, 2) := by decide +kernel
theorem dX3_makeNew_31 : decode cX3_makeNew 31 = .ok (.iconst 1, 1) := by decide +kernel
theorem dX3_makeNew_32 : decode cX3_makeNew 32 = .ok (.invokevirtual 55, 3) := by decide +kernel
theorem dX3_makeNew_35 : decode cX3_makeNew 35 = .ok (.aload_n 0, 1) := by decide +kernel
theorem dX3_makeNew_36 : decode cX3_makeNew 36 = .ok (.getfield 26, 3) := by decide +kernel
theorem dX3_makeNew_39 : decode cX3_makeNew 39 = .ok (.iconst 0, 1) := by decide +kernel
theorem dX3_makeNew_40 : decode cX3_makeNew 40 = .ok (.invokevirtual 59, 3) := by decide +kernel
theorem dX3_makeNew_43 : decode cX3_makeNew 43 = .ok (.return_, 1) := by decide +kernel
def FX3_makeNew (T : zT) (a0 : Nat) (h : zH) : Option zH := (zo h a0 3).bind fun _ => (FX3_putSize T a0 6 6 h).bind fun h2 => (zpv h2 a0 3 2 (.int 2)).bind fun h3 => (zpv h3 a0 3 3 (.int 2)).bind fun h4 => (FX3_putLetter T a0 0 0 2 0 h4).bind fun h6 => (FX3_putLetter T a0 1 3 6 1 h6).bind fun h8 => (zgr h8 a0 3 7).bind fun x9 => (FX1_fill T x9 0 h8).bind fun h11 => some h11
set_option maxHeartbeats 4000000 in
set_option maxRecDepth 100000 in
theorem BX3_makeNew {X : zX} (C : zC X cX3_makeNew 1 RX3 "makeNew" none 2 46) {al : Bool} {hi : Nat} {h : zH} {a0 : Nat} {r9 : zH} (hf : FX3_makeNew (xT X) a0 h = some r9) : zW X 1 (zZ X al (none, hi, r9)) 0 0 al hi h 0 [(0, .ref a0)] [] := by
  unfold FX3_makeNew at hf
  obtain ⟨_, _, hf⟩ := zbind hf
  refine z_aload_n C dX3_makeNew_0 0 rfl rfl ?_
  refine z_bipush C (v := 6) dX3_makeNew_1 (by decide) ?_
  refine z_bipush C (v := 6) dX3_makeNew_3 (by decide) ?_
  obtain ⟨h2, g1, hf⟩ := zbind hf
  refine z_callV (kc' := 0) (ks' := 0) C (MX3_putSize (xl X) (xD X) (xT X) (xlo X) al hi g1) (OX3_putSize g1) rfl cw_X3_44 yv_X3_putSize dX3_makeNew_5 rfl (by decide) ⟨rfl, rfl⟩ (Nat.le_of_ble_eq_true rfl) (st := []) rfl ?_
  refine z_aload_n C dX3_makeNew_8 0 rfl rfl ?_
  refine z_iconst C (v := 2) dX3_makeNew_9 (by decide) ?_
  refine z_put C fl_X3_48 dX3_makeNew_10 rfl rfl hf (fun h3 hf => ?_)
  refine z_aload_n C dX3_makeNew_13 0 rfl rfl ?_
  refine z_iconst C (v := 2) dX3_makeNew_14 (by decide) ?_
  refine z_put C fl_X3_52 dX3_makeNew_15 rfl rfl hf (fun h4 hf => ?_)
  refine z_aload_n C dX3_makeNew_18 0 rfl rfl ?_
  refine z_iconst C (v := 0) dX3_makeNew_19 (by decide) ?_
  refine z_iconst C (v := 0) dX3_makeNew_20 (by decide) ?_
  refine z_iconst C (v := 2) dX3_makeNew_21 (by decide) ?_
  refine z_iconst C (v := 0) dX3_makeNew_22 (by decide) ?_
  obtain ⟨h6, g5, hf⟩ := zbind hf
  refine z_callV (kc' := 0) (ks' := 0) C (MX3_putLetter (xl X) (xD X) (xT X) (xlo X) al hi g5) (OX3_putLetter g5) rfl cw_X3_55 yv_X3_putLetter dX3_makeNew_23 rfl (by decide) ⟨rfl, rfl⟩ (Nat.le_of_ble_eq_true rfl) (st := []) rfl ?_
  refine z_aload_n C dX3_makeNew_26 0 rfl rfl ?_
  refine z_iconst C (v := 1) dX3_makeNew_27 (by decide) ?_
  refine z_iconst C (v := 3) dX3_makeNew_28 (by decide) ?_
  refine z_bipush C (v := 6) dX3_makeNew_29 (by decide) ?_
  refine z_iconst C (v := 1) dX3_makeNew_31 (by decide) ?_
  obtain ⟨h8, g7, hf⟩ := zbind hf
  refine z_callV (kc' := 0) (ks' := 0) C (MX3_putLetter (xl X) (xD X) (xT X) (xlo X) al hi g7) (OX3_putLetter g7) rfl cw_X3_55 yv_X3_putLetter dX3_makeNew_32 rfl (by decide) ⟨rfl, rfl⟩ (Nat.le_of_ble_eq_true rfl) (st := []) rfl ?_
  refine z_aload_n C dX3_makeNew_35 0 rfl rfl ?_
  refine z_getR C fl_X3_26 dX3_makeNew_36 hf (fun x9 hf => ?_)
  refine z_iconst C (v := 0) dX3_makeNew_39 (by decide) ?_
  obtain ⟨h11, g10, hf⟩ := zbind hf
  refine z_callV (kc' := 0) (ks' := 0) C (MX1_fill (xl X) (xD X) (xT X) (xlo X) al hi g10) (OX1_fill g10) rfl cw_X3_59 yv_X1_fill dX3_makeNew_40 rfl (by decide) ⟨rfl, rfl⟩ (Nat.le_of_ble_eq_true rfl) (st := []) rfl ?_
  exact z_vreturn C dX3_makeNew_43 (by cases hf; rfl)
theorem MX3_makeNew (l : Launch) (D : va_G) (T : zT) (lo : Nat) (al : Bool) (hi : Nat) {h : zH} {a0 : Nat} {h9 : zH} (hf : FX3_makeNew T a0 h = some h9) : zM l yX3_makeNew (.code yX3_makeNew cX3_makeNew 1 none :: TW) ({ frames := 2, cells := 0, slots := 0, locals := 46 } : Room) D T lo al [.ref a0] hi h (none, hi, h9) :=
  z_enter (own := RX3) (nm := "makeNew") (lv := [(0, .ref a0)]) (by decide +kernel) rfl rfl (Nat.le_of_ble_eq_true rfl) rfl (fun _ _ _ _ _ _ _ _ C => BX3_makeNew C hf)
theorem OX3_makeNew {T : zT} {h : zH} {a0 : Nat} {r9 : zH} (hf : FX3_makeNew T a0 h = some r9) : ∃ fs, h a0 = some (.inr (3, fs)) := by
  obtain ⟨_, h1, _⟩ := zbind hf
  exact zo_obj h1
theorem dX3_takeFrom_0 : decode cX3_takeFrom 0 = .ok (.aload_n 0, 1) := by decide +kernel
theorem dX3_takeFrom_1 : decode cX3_takeFrom 1 = .ok (.aload_n 1, 1) := by decide +kernel
theorem dX3_takeFrom_2 : decode cX3_takeFrom 2 = .ok (.getfield 62, 3) := by decide +kernel
theorem dX3_takeFrom_5 : decode cX3_takeFrom 5 = .ok (.aload_n 1, 1) := by decide +kernel
theorem dX3_takeFrom_6 : decode cX3_takeFrom 6 = .ok (.getfield 65, 3) := by decide +kernel
theorem dX3_takeFrom_9 : decode cX3_takeFrom 9 = .ok (.invokevirtual 44, 3) := by decide +kernel
theorem dX3_takeFrom_12 : decode cX3_takeFrom 12 = .ok (.aload_n 0, 1) := by decide +kernel
theorem dX3_takeFrom_13 : decode cX3_takeFrom 13 = .ok (.aload_n 1, 1) := by decide +kernel
theorem dX3_takeFrom_14 : decode cX3_takeFrom 14 = .ok (.getfield 48, 3) := by decide +kernel
theorem dX3_takeFrom_17 : decode cX3_takeFrom 17 = .ok (.putfield 48, 3) := by decide +kernel
theorem dX3_takeFrom_20 : decode cX3_takeFrom 20 = .ok (.aload_n 0, 1) := by decide +kernel
theorem dX3_takeFrom_21 : decode cX3_takeFrom 21 = .ok (.aload_n 1, 1) := by decide +kernel
theorem dX3_takeFrom_22 : decode cX3_takeFrom 22 = .ok (.getfield 52, 3) := by decide +kernel
theorem dX3_takeFrom_25 : decode cX3_takeFrom 25 = .ok (.putfield 52, 3) := by decide +kernel
theorem dX3_takeFrom_28 : decode cX3_takeFrom 28 = .ok (.aload_n 0, 1) := by decide +kernel
theorem dX3_takeFrom_29 : decode cX3_takeFrom 29 = .ok (.getfield 14, 3) := by decide +kernel
theorem dX3_takeFrom_32 : decode cX3_takeFrom 32 = .ok (.aload_n 1, 1) := by decide +kernel
theorem dX3_takeFrom_33 : decode cX3_takeFrom 33 = .ok (.getfield 14, 3) := by decide +kernel
theorem dX3_takeFrom_36 : decode cX3_takeFrom 36 = .ok (.invokevirtual 68, 3) := by decide +kernel
theorem dX3_takeFrom_39 : decode cX3_takeFrom 39 = .ok (.aload_n 0, 1) := by decide +kernel
theorem dX3_takeFrom_40 : decode cX3_takeFrom 40 = .ok (.getfield 20, 3) := by decide +kernel
theorem dX3_takeFrom_43 : decode cX3_takeFrom 43 = .ok (.aload_n 1, 1) := by decide +kernel
theorem dX3_takeFrom_44 : decode cX3_takeFrom 44 = .ok (.getfield 20, 3) := by decide +kernel
theorem dX3_takeFrom_47 : decode cX3_takeFrom 47 = .ok (.invokevirtual 68, 3) := by decide +kernel
theorem dX3_takeFrom_50 : decode cX3_takeFrom 50 = .ok (.aload_n 0, 1) := by decide +kernel
theorem dX3_takeFrom_51 : decode cX3_takeFrom 51 = .ok (.getfield 23, 3) := by decide +kernel
theorem dX3_takeFrom_54 : decode cX3_takeFrom 54 = .ok (.aload_n 1, 1) := by decide +kernel
theorem dX3_takeFrom_55 : decode cX3_takeFrom 55 = .ok (.getfield 23, 3) := by decide +kernel
theorem dX3_takeFrom_58 : decode cX3_takeFrom 58 = .ok (.invokevirtual 68, 3) := by decide +kernel
theorem dX3_takeFrom_61 : decode cX3_takeFrom 61 = .ok (.aload_n 0, 1) := by decide +kernel
theorem dX3_takeFrom_62 : decode cX3_takeFrom 62 = .ok (.getfield 26, 3) := by decide +kernel
theorem dX3_takeFrom_65 : decode cX3_takeFrom 65 = .ok (.aload_n 1, 1) := by decide +kernel
theorem dX3_takeFrom_66 : decode cX3_takeFrom 66 = .ok (.getfield 26, 3) := by decide +kernel
theorem dX3_takeFrom_69 : decode cX3_takeFrom 69 = .ok (.invokevirtual 68, 3) := by decide +kernel
theorem dX3_takeFrom_72 : decode cX3_takeFrom 72 = .ok (.aload_n 0, 1) := by decide +kernel
theorem dX3_takeFrom_73 : decode cX3_takeFrom 73 = .ok (.getfield 29, 3) := by decide +kernel
theorem dX3_takeFrom_76 : decode cX3_takeFrom 76 = .ok (.aload_n 1, 1) := by decide +kernel
theorem dX3_takeFrom_77 : decode cX3_takeFrom 77 = .ok (.getfield 29, 3) := by decide +kernel
theorem dX3_takeFrom_80 : decode cX3_takeFrom 80 = .ok (.invokevirtual 68, 3) := by decide +kernel
theorem dX3_takeFrom_83 : decode cX3_takeFrom 83 = .ok (.aload_n 0, 1) := by decide +kernel
theorem dX3_takeFrom_84 : decode cX3_takeFrom 84 = .ok (.getfield 32, 3) := by decide +kernel
theorem dX3_takeFrom_87 : decode cX3_takeFrom 87 = .ok (.aload_n 1, 1) := by decide +kernel
theorem dX3_takeFrom_88 : decode cX3_takeFrom 88 = .ok (.getfield 32, 3) := by decide +kernel
theorem dX3_takeFrom_91 : decode cX3_takeFrom 91 = .ok (.invokevirtual 68, 3) := by decide +kernel
theorem dX3_takeFrom_94 : decode cX3_takeFrom 94 = .ok (.aload_n 0, 1) := by decide +kernel
theorem dX3_takeFrom_95 : decode cX3_takeFrom 95 = .ok (.getfield 35, 3) := by decide +kernel
theorem dX3_takeFrom_98 : decode cX3_takeFrom 98 = .ok (.aload_n 1, 1) := by decide +kernel
theorem dX3_takeFrom_99 : decode cX3_takeFrom 99 = .ok (.getfield 35, 3) := by decide +kernel
theorem dX3_takeFrom_102 : decode cX3_takeFrom 102 = .ok (.invokevirtual 68, 3) := by decide +kernel
theorem dX3_takeFrom_105 : decode cX3_takeFrom 105 = .ok (.aload_n 0, 1) := by decide +kernel
theorem dX3_takeFrom_106 : decode cX3_takeFrom 106 = .ok (.getfield 38, 3) := by decide +kernel
theorem dX3_takeFrom_109 : decode cX3_takeFrom 109 = .ok (.aload_n 1, 1) := by decide +kernel
theorem dX3_takeFrom_110 : decode cX3_takeFrom 110 = .ok (.getfield 38, 3) := by decide +kernel
theorem dX3_takeFrom_113 : decode cX3_takeFrom 113 = .ok (.invokevirtual 68, 3) := by decide +kernel
theorem dX3_takeFrom_116 : decode cX3_takeFrom 116 = .ok (.return_, 1) := by decide +kernel
def FX3_takeFrom (T : zT) (a0 : Nat) (p0 : Nat) (h : zH) : Option zH := (zo h a0 3).bind fun _ => (zgi h p0 3 0).bind fun x1 => (zgi h p0 3 1).bind fun x2 => (FX3_putSize T a0 x1 x2 h).bind fun h4 => (zgi h4 p0 3 2).bind fun x5 => (zpv h4 a0 3 2 (.int x5)).bind fun h6 => (zgi h6 p0 3 3).bind fun x7 => (zpv h6 a0 3 3 (.int x7)).bind fun h8 => (zgr h8 a0 3 4).bind fun x9 => (zgr h8 p0 3 4).bind fun x10 => (FX1_takeFrom T x9 x10 h8).bind fun h12 => (zgr h12 a0 3 5).bind fun x13 => (zgr h12 p0 3 5).bind fun x14 => (FX1_takeFrom T x13 x14 h12).bind fun h16 => (zgr h16 a0 3 6).bind fun x17 => (zgr h16 p0 3 6).bind fun x18 => (FX1_takeFrom T x17 x18 h16).bind fun h20 => (zgr h20 a0 3 7).bind fun x21 => (zgr h20 p0 3 7).bind fun x22 => (FX1_takeFrom T x21 x22 h20).bind fun h24 => (zgr h24 a0 3 8).bind fun x25 => (zgr h24 p0 3 8).bind fun x26 => (FX1_takeFrom T x25 x26 h24).bind fun h28 => (zgr h28 a0 3 9).bind fun x29 => (zgr h28 p0 3 9).bind fun x30 => (FX1_takeFrom T x29 x30 h28).bind fun h32 => (zgr h32 a0 3 10).bind fun x33 => (zgr h32 p0 3 10).bind fun x34 => (FX1_takeFrom T x33 x34 h32).bind fun h36 => (zgr h36 a0 3 11).bind fun x37 => (zgr h36 p0 3 11).bind fun x38 => (FX1_takeFrom T x37 x38 h36).bind fun h40 => some h40
set_option maxHeartbeats 4000000 in
set_option maxRecDepth 100000 in
theorem BX3_takeFrom {X : zX} (C : zC X cX3_takeFrom 2 RX3 "takeFrom" none 2 47) {hi : Nat} {h : zH} {a0 : Nat} {p0 : Nat} {r9 : zH} (hf : FX3_takeFrom (xT X) a0 p0 h = some r9) : zW X 2 (zZ X false (none, hi, r9)) 0 0 false hi h 0 [(0, .ref a0), (1, .ref p0)] [] := by
  unfold FX3_takeFrom at hf
  obtain ⟨_, _, hf⟩ := zbind hf
  refine z_aload_n C dX3_takeFrom_0 0 rfl rfl ?_
  refine z_aload_n C dX3_takeFrom_1 1 rfl rfl ?_
  refine z_getI C fl_X3_62 dX3_takeFrom_2 hf (fun x1 hf => ?_)
  refine z_aload_n C dX3_takeFrom_5 1 rfl rfl ?_
  refine z_getI C fl_X3_65 dX3_takeFrom_6 hf (fun x2 hf => ?_)
  obtain ⟨h4, g3, hf⟩ := zbind hf
  refine z_callV (kc' := 0) (ks' := 0) C (MX3_putSize (xl X) (xD X) (xT X) (xlo X) false hi g3) (OX3_putSize g3) rfl cw_X3_44 yv_X3_putSize dX3_takeFrom_9 rfl (by decide) ⟨rfl, rfl⟩ (Nat.le_of_ble_eq_true rfl) (st := []) rfl ?_
  refine z_aload_n C dX3_takeFrom_12 0 rfl rfl ?_
  refine z_aload_n C dX3_takeFrom_13 1 rfl rfl ?_
  refine z_getI C fl_X3_48 dX3_takeFrom_14 hf (fun x5 hf => ?_)
  refine z_put C fl_X3_48 dX3_takeFrom_17 rfl rfl hf (fun h6 hf => ?_)
  refine z_aload_n C dX3_takeFrom_20 0 rfl rfl ?_
  refine z_aload_n C dX3_takeFrom_21 1 rfl rfl ?_
  refine z_getI C fl_X3_52 dX3_takeFrom_22 hf (fun x7 hf => ?_)
  refine z_put C fl_X3_52 dX3_takeFrom_25 rfl rfl hf (fun h8 hf => ?_)
  refine z_aload_n C dX3_takeFrom_28 0 rfl rfl ?_
  refine z_getR C fl_X3_14 dX3_takeFrom_29 hf (fun x9 hf => ?_)
  refine z_aload_n C dX3_takeFrom_32 1 rfl rfl ?_
  refine z_getR C fl_X3_14 dX3_takeFrom_33 hf (fun x10 hf => ?_)
  obtain ⟨h12, g11, hf⟩ := zbind hf
  refine z_callV (kc' := 0) (ks' := 0) C (MX1_takeFrom (xl X) (xD X) (xT X) (xlo X) hi g11) (OX1_takeFrom g11) rfl cw_X3_68 yv_X1_takeFrom dX3_takeFrom_36 rfl (by decide) ⟨rfl, rfl⟩ (Nat.le_of_ble_eq_true rfl) (st := []) rfl ?_
  refine z_aload_n C dX3_takeFrom_39 0 rfl rfl ?_
  refine z_getR C fl_X3_20 dX3_takeFrom_40 hf (fun x13 hf => ?_)
  refine z_aload_n C dX3_takeFrom_43 1 rfl rfl ?_
  refine z_getR C fl_X3_20 dX3_takeFrom_44 hf (fun x14 hf => ?_)
  obtain ⟨h16, g15, hf⟩ := zbind hf
  refine z_callV (kc' := 0) (ks' := 0) C (MX1_takeFrom (xl X) (xD X) (xT X) (xlo X) hi g15) (OX1_takeFrom g15) rfl cw_X3_68 yv_X1_takeFrom dX3_takeFrom_47 rfl (by decide) ⟨rfl, rfl⟩ (Nat.le_of_ble_eq_true rfl) (st := []) rfl ?_
  refine z_aload_n C dX3_takeFrom_50 0 rfl rfl ?_
  refine z_getR C fl_X3_23 dX3_takeFrom_51 hf (fun x17 hf => ?_)
  refine z_aload_n C dX3_takeFrom_54 1 rfl rfl ?_
  refine z_getR C fl_X3_23 dX3_takeFrom_55 hf (fun x18 hf => ?_)
  obtain ⟨h20, g19, hf⟩ := zbind hf
  refine z_callV (kc' := 0) (ks' := 0) C (MX1_takeFrom (xl X) (xD X) (xT X) (xlo X) hi g19) (OX1_takeFrom g19) rfl cw_X3_68 yv_X1_takeFrom dX3_takeFrom_58 rfl (by decide) ⟨rfl, rfl⟩ (Nat.le_of_ble_eq_true rfl) (st := []) rfl ?_
  refine z_aload_n C dX3_takeFrom_61 0 rfl rfl ?_
  refine z_getR C fl_X3_26 dX3_takeFrom_62 hf (fun x21 hf => ?_)
  refine z_aload_n C dX3_takeFrom_65 1 rfl rfl ?_
  refine z_getR C fl_X3_26 dX3_takeFrom_66 hf (fun x22 hf => ?_)
  obtain ⟨h24, g23, hf⟩ := zbind hf
  refine z_callV (kc' := 0) (ks' := 0) C (MX1_takeFrom (xl X) (xD X) (xT X) (xlo X) hi g23) (OX1_takeFrom g23) rfl cw_X3_68 yv_X1_takeFrom dX3_takeFrom_69 rfl (by decide) ⟨rfl, rfl⟩ (Nat.le_of_ble_eq_true rfl) (st := []) rfl ?_
  refine z_aload_n C dX3_takeFrom_72 0 rfl rfl ?_
  refine z_getR C fl_X3_29 dX3_takeFrom_73 hf (fun x25 hf => ?_)
  refine z_aload_n C dX3_takeFrom_76 1 rfl rfl ?_
  refine z_getR C fl_X3_29 dX3_takeFrom_77 hf (fun x26 hf => ?_)
  obtain ⟨h28, g27, hf⟩ := zbind hf
  refine z_callV (kc' := 0) (ks' := 0) C (MX1_takeFrom (xl X) (xD X) (xT X) (xlo X) hi g27) (OX1_takeFrom g27) rfl cw_X3_68 yv_X1_takeFrom dX3_takeFrom_80 rfl (by decide) ⟨rfl, rfl⟩ (Nat.le_of_ble_eq_true rfl) (st := []) rfl ?_
  refine z_aload_n C dX3_takeFrom_83 0 rfl rfl ?_
  refine z_getR C fl_X3_32 dX3_takeFrom_84 hf (fun x29 hf => ?_)
  refine z_aload_n C dX3_takeFrom_87 1 rfl rfl ?_
  refine z_getR C fl_X3_32 dX3_takeFrom_88 hf (fun x30 hf => ?_)
  obtain ⟨h32, g31, hf⟩ := zbind hf
  refine z_callV (kc' := 0) (ks' := 0) C (MX1_takeFrom (xl X) (xD X) (xT X) (xlo X) hi g31) (OX1_takeFrom g31) rfl cw_X3_68 yv_X1_takeFrom dX3_takeFrom_91 rfl (by decide) ⟨rfl, rfl⟩ (Nat.le_of_ble_eq_true rfl) (st := []) rfl ?_
  refine z_aload_n C dX3_takeFrom_94 0 rfl rfl ?_
  refine z_getR C fl_X3_35 dX3_takeFrom_95 hf (fun x33 hf => ?_)
  refine z_aload_n C dX3_takeFrom_98 1 rfl rfl ?_
  refine z_getR C fl_X3_35 dX3_takeFrom_99 hf (fun x34 hf => ?_)
  obtain ⟨h36, g35, hf⟩ := zbind hf
  refine z_callV (kc' := 0) (ks' := 0) C (MX1_takeFrom (xl X) (xD X) (xT X) (xlo X) hi g35) (OX1_takeFrom g35) rfl cw_X3_68 yv_X1_takeFrom dX3_takeFrom_102 rfl (by decide) ⟨rfl, rfl⟩ (Nat.le_of_ble_eq_true rfl) (st := []) rfl ?_
  refine z_aload_n C dX3_takeFrom_105 0 rfl rfl ?_
  refine z_getR C fl_X3_38 dX3_takeFrom_106 hf (fun x37 hf => ?_)
  refine z_aload_n C dX3_takeFrom_109 1 rfl rfl ?_
  refine z_getR C fl_X3_38 dX3_takeFrom_110 hf (fun x38 hf => ?_)
  obtain ⟨h40, g39, hf⟩ := zbind hf
  refine z_callV (kc' := 0) (ks' := 0) C (MX1_takeFrom (xl X) (xD X) (xT X) (xlo X) hi g39) (OX1_takeFrom g39) rfl cw_X3_68 yv_X1_takeFrom dX3_takeFrom_113 rfl (by decide) ⟨rfl, rfl⟩ (Nat.le_of_ble_eq_true rfl) (st := []) rfl ?_
  exact z_vreturn C dX3_takeFrom_116 (by cases hf; rfl)
theorem MX3_takeFrom (l : Launch) (D : va_G) (T : zT) (lo : Nat) (hi : Nat) {h : zH} {a0 : Nat} {p0 : Nat} {h9 : zH} (hf : FX3_takeFrom T a0 p0 h = some h9) : zM l yX3_takeFrom (.code yX3_takeFrom cX3_takeFrom 2 none :: TW) ({ frames := 2, cells := 0, slots := 0, locals := 47 } : Room) D T lo false [.ref a0, .ref p0] hi h (none, hi, h9) :=
  z_enter (own := RX3) (nm := "takeFrom") (lv := [(0, .ref a0), (1, .ref p0)]) (by decide +kernel) rfl rfl (Nat.le_of_ble_eq_true rfl) rfl (fun _ _ _ _ _ _ _ _ C => BX3_takeFrom C hf)
theorem OX3_takeFrom {T : zT} {h : zH} {a0 : Nat} {p0 : Nat} {r9 : zH} (hf : FX3_takeFrom T a0 p0 h = some r9) : ∃ fs, h a0 = some (.inr (3, fs)) := by
  obtain ⟨_, h1, _⟩ := zbind hf
  exact zo_obj h1
theorem dX3_putPen_0 : decode cX3_putPen 0 = .ok (.aload_n 0, 1) := by decide +kernel
theorem dX3_putPen_1 : decode cX3_putPen 1 = .ok (.getfield 14, 3) := by decide +kernel
theorem dX3_putPen_4 : decode cX3_putPen 4 = .ok (.iload_n 1, 1) := by decide +kernel
theorem dX3_putPen_5 : decode cX3_putPen 5 = .ok (.iload_n 2, 1) := by decide +kernel
theorem dX3_putPen_6 : decode cX3_putPen 6 = .ok (.invokevirtual 72, 3) := by decide +kernel
theorem dX3_putPen_9 : decode cX3_putPen 9 = .ok (.aload_n 0, 1) := by decide +kernel
theorem dX3_putPen_10 : decode cX3_putPen 10 = .ok (.getfield 20, 3) := by decide +kernel
theorem dX3_putPen_13 : decode cX3_putPen 13 = .ok (.iload_n 1, 1) := by decide +kernel
theorem dX3_putPen_14 : decode cX3_putPen 14 = .ok (.iload_n 3, 1) := by decide +kernel
theorem dX3_putPen_15 : decode cX3_putPen 15 = .ok (.invokevirtual 72, 3) := by decide +kernel
theorem dX3_putPen_18 : decode cX3_putPen 18 = .ok (.return_, 1) := by decide +kernel
def FX3_putPen (T : zT) (a0 : Nat) (p0 : Int32) (p1 : Int32) (p2 : Int32) (h : zH) : Option zH := (zo h a0 3).bind fun _ => (zgr h a0 3 4).bind fun x1 => (FX1_put T x1 p0 p1 h).bind fun h3 => (zgr h3 a0 3 5).bind fun x4 => (FX1_put T x4 p0 p2 h3).bind fun h6 => some h6
set_option maxHeartbeats 4000000 in
set_option maxRecDepth 100000 in
theorem BX3_putPen {X : zX} (C : zC X cX3_putPen 4 RX3 "putPen" none 1 22) {al : Bool} {hi : Nat} {h : zH} {a0 : Nat} {p0 : Int32} {p1 : Int32} {p2 : Int32} {r9 : zH} (hf : FX3_putPen (xT X) a0 p0 p1 p2 h = some r9) : zW X 4 (zZ X al (none, hi, r9)) 0 0 al hi h 0 [(0, .ref a0), (1, .int p0), (2, .int p1), (3, .int p2)] [] := by
  unfold FX3_putPen at hf
  obtain ⟨_, _, hf⟩ := zbind hf
  refine z_aload_n C dX3_putPen_0 0 rfl rfl ?_
  refine z_getR C fl_X3_14 dX3_putPen_1 hf (fun x1 hf => ?_)
  refine z_iload_n C dX3_putPen_4 1 rfl rfl ?_
  refine z_iload_n C dX3_putPen_5 2 rfl rfl ?_
  obtain ⟨h3, g2, hf⟩ := zbind hf
  refine z_callV (kc' := 0) (ks' := 0) C (MX1_put (xl X) (xD X) (xT X) (xlo X) al hi g2) (OX1_put g2) rfl cw_X3_72 yv_X1_put dX3_putPen_6 rfl (by decide) ⟨rfl, rfl⟩ (Nat.le_of_ble_eq_true rfl) (st := []) rfl ?_
  refine z_aload_n C dX3_putPen_9 0 rfl rfl ?_
  refine z_getR C fl_X3_20 dX3_putPen_10 hf (fun x4 hf => ?_)
  refine z_iload_n C dX3_putPen_13 1 rfl rfl ?_
  refine z_iload_n C dX3_putPen_14 3 rfl rfl ?_
  obtain ⟨h6, g5, hf⟩ := zbind hf
  refine z_callV (kc' := 0) (ks' := 0) C (MX1_put (xl X) (xD X) (xT X) (xlo X) al hi g5) (OX1_put g5) rfl cw_X3_72 yv_X1_put dX3_putPen_15 rfl (by decide) ⟨rfl, rfl⟩ (Nat.le_of_ble_eq_true rfl) (st := []) rfl ?_
  exact z_vreturn C dX3_putPen_18 (by cases hf; rfl)
theorem MX3_putPen (l : Launch) (D : va_G) (T : zT) (lo : Nat) (al : Bool) (hi : Nat) {h : zH} {a0 : Nat} {p0 : Int32} {p1 : Int32} {p2 : Int32} {h9 : zH} (hf : FX3_putPen T a0 p0 p1 p2 h = some h9) : zM l yX3_putPen (.code yX3_putPen cX3_putPen 4 none :: TW) ({ frames := 1, cells := 0, slots := 0, locals := 22 } : Room) D T lo al [.ref a0, .int p0, .int p1, .int p2] hi h (none, hi, h9) :=
  z_enter (own := RX3) (nm := "putPen") (lv := [(0, .ref a0), (1, .int p0), (2, .int p1), (3, .int p2)]) (by decide +kernel) rfl rfl (Nat.le_of_ble_eq_true rfl) rfl (fun _ _ _ _ _ _ _ _ C => BX3_putPen C hf)
theorem OX3_putPen {T : zT} {h : zH} {a0 : Nat} {p0 : Int32} {p1 : Int32} {p2 : Int32} {r9 : zH} (hf : FX3_putPen T a0 p0 p1 p2 h = some r9) : ∃ fs, h a0 = some (.inr (3, fs)) := by
  obtain ⟨_, h1, _⟩ := zbind hf
  exact zo_obj h1
theorem dX3_hasCell_0 : decode cX3_hasCell 0 = .ok (.iload_n 1, 1) := by decide +kernel
theorem dX3_hasCell_1 : decode cX3_hasCell 1 = .ok (.ifCond .lt 27, 3) := by decide +kernel
theorem dX3_hasCell_4 : decode cX3_hasCell 4 = .ok (.iload_n 1, 1) := by decide +kernel
theorem dX3_hasCell_5 : decode cX3_hasCell 5 = .ok (.aload_n 0, 1) := by decide +kernel
theorem dX3_hasCell_6 : decode cX3_hasCell 6 = .ok (.getfield 62, 3) := by decide +kernel
theorem dX3_hasCell_9 : decode cX3_hasCell 9 = .ok (.if_icmp .ge 19, 3) := by decide +kernel
theorem dX3_hasCell_12 : decode cX3_hasCell 12 = .ok (.iload_n 2, 1) := by decide +kernel
theorem dX3_hasCell_13 : decode cX3_hasCell 13 = .ok (.ifCond .lt 15, 3) := by decide +kernel
theorem dX3_hasCell_16 : decode cX3_hasCell 16 = .ok (.iload_n 2, 1) := by decide +kernel
theorem dX3_hasCell_17 : decode cX3_hasCell 17 = .ok (.aload_n 0, 1) := by decide +kernel
theorem dX3_hasCell_18 : decode cX3_hasCell 18 = .ok (.getfield 65, 3) := by decide +kernel
theorem dX3_hasCell_21 : decode cX3_hasCell 21 = .ok (.if_icmp .ge 7, 3) := by decide +kernel
theorem dX3_hasCell_24 : decode cX3_hasCell 24 = .ok (.iconst 1, 1) := by decide +kernel
theorem dX3_hasCell_25 : decode cX3_hasCell 25 = .ok (.goto 4, 3) := by decide +kernel
theorem dX3_hasCell_28 : decode cX3_hasCell 28 = .ok (.iconst 0, 1) := by decide +kernel
theorem dX3_hasCell_29 : decode cX3_hasCell 29 = .ok (.ireturn, 1) := by decide +kernel
def FX3_hasCell (T : zT) (a0 : Nat) (p0 : Int32) (p1 : Int32) (h : zH) : Option Int32 := (zo h a0 3).bind fun _ => zJ (fun (x1 : Int32) => if x1 = 0 ∨ x1 = 1 then some x1 else none) (fun J2 => zJ (fun (u9 : Unit) => J2 0) (fun J3 => if p0 < 0 then (J3 ()) else ((zgi h a0 3 0).bind fun x4 => if x4 ≤ p0 then (J3 ()) else (if p1 < 0 then (J3 ()) else ((zgi h a0 3 1).bind fun x5 => if x5 ≤ p1 then (J3 ()) else (J2 1))))))
set_option maxHeartbeats 4000000 in
set_option maxRecDepth 100000 in
theorem BX3_hasCell {X : zX} (C : zC X cX3_hasCell 3 RX3 "hasCell" (some .boolean) 0 0) {al : Bool} {hi : Nat} {h : zH} {a0 : Nat} {p0 : Int32} {p1 : Int32} {r9 : Int32} (hf : FX3_hasCell (xT X) a0 p0 p1 h = some r9) : zW X 3 (zZ X al (some (.int r9), hi, h)) 0 0 al hi h 0 [(0, .ref a0), (1, .int p0), (2, .int p1)] [] := by
  unfold FX3_hasCell at hf
  obtain ⟨_, _, hf⟩ := zbind hf
  refine z_join (P := fun J => ∀ (x1 : Int32), J x1 = some r9 → zW X 3 (zZ X al (some (.int r9), hi, h)) 0 0 al hi h 29 [] [.int x1]) hf ?_ ?_
  · intro x1 hf
    refine z_ite hf (fun c hf => ?_) (fun c hf => nomatch hf)
    exact z_zreturn C dX3_hasCell_29 c (by cases hf; rfl)
  · intro J2 kJ2 hf
    refine z_join (P := fun J => ∀ (u9 : Unit), J u9 = some r9 → zW X 3 (zZ X al (some (.int r9), hi, h)) 0 0 al hi h 28 [] []) hf ?_ ?_
    · intro u9 hf
      refine z_iconst C (v := 0) dX3_hasCell_28 (by decide) ?_
      exact kJ2 _ hf
    · intro J3 kJ3 hf
      refine z_iload_n C dX3_hasCell_0 1 rfl rfl ?_
      refine z_if_lt (tgt := 28) C dX3_hasCell_1 (by decide) hf (fun hf => ?_) (fun hf => ?_)
      · refine z_sub [] rfl ?_
        exact kJ3 _ hf
      · refine z_iload_n C dX3_hasCell_4 1 rfl rfl ?_
        refine z_aload_n C dX3_hasCell_5 0 rfl rfl ?_
        refine z_getI C fl_X3_62 dX3_hasCell_6 hf (fun x4 hf => ?_)
        refine z_icmp_ge (tgt := 28) C dX3_hasCell_9 (by decide) hf (fun hf => ?_) (fun hf => ?_)
        · refine z_sub [] rfl ?_
          exact kJ3 _ hf
        · refine z_iload_n C dX3_hasCell_12 2 rfl rfl ?_
          refine z_if_lt (tgt := 28) C dX3_hasCell_13 (by decide) hf (fun hf => ?_) (fun hf => ?_)
          · refine z_sub [] rfl ?_
            exact kJ3 _ hf
          · refine z_iload_n C dX3_hasCell_16 2 rfl rfl ?_
            refine z_aload_n C dX3_hasCell_17 0 rfl rfl ?_
            refine z_getI C fl_X3_65 dX3_hasCell_18 hf (fun x5 hf => ?_)
            refine z_icmp_ge (tgt := 28) C dX3_hasCell_21 (by decide) hf (fun hf => ?_) (fun hf => ?_)
            · refine z_sub [] rfl ?_
              exact kJ3 _ hf
            · refine z_iconst C (v := 1) dX3_hasCell_24 (by decide) ?_
              refine z_goto (tgt := 29) C dX3_hasCell_25 (by decide) ?_
              refine z_sub [] rfl ?_
              exact kJ2 _ hf
theorem MX3_hasCell (l : Launch) (D : va_G) (T : zT) (lo : Nat) (al : Bool) (hi : Nat) {h : zH} {a0 : Nat} {p0 : Int32} {p1 : Int32} {v9 : Int32} (hf : FX3_hasCell T a0 p0 p1 h = some v9) : zM l yX3_hasCell (.code yX3_hasCell cX3_hasCell 3 (some .boolean) :: TW) ({ frames := 0, cells := 0, slots := 0, locals := 0 } : Room) D T lo al [.ref a0, .int p0, .int p1] hi h (some (.int v9), hi, h) :=
  z_enter (own := RX3) (nm := "hasCell") (lv := [(0, .ref a0), (1, .int p0), (2, .int p1)]) (by decide +kernel) rfl rfl (Nat.le_of_ble_eq_true rfl) rfl (fun _ _ _ _ _ _ _ _ C => BX3_hasCell C hf)
theorem OX3_hasCell {T : zT} {h : zH} {a0 : Nat} {p0 : Int32} {p1 : Int32} {r9 : Int32} (hf : FX3_hasCell T a0 p0 p1 h = some r9) : ∃ fs, h a0 = some (.inr (3, fs)) := by
  obtain ⟨_, h1, _⟩ := zbind hf
  exact zo_obj h1
theorem dX6_cellOf_0 : decode cX6_cellOf 0 = .ok (.bipush 9, 2) := by decide +kernel
theorem dX6_cellOf_2 : decode cX6_cellOf 2 = .ok (.iload_n 0, 1) := by decide +kernel
theorem dX6_cellOf_3 : decode cX6_cellOf 3 = .ok (.imul, 1) := by decide +kernel
theorem dX6_cellOf_4 : decode cX6_cellOf 4 = .ok (.iload_n 1, 1) := by decide +kernel
theorem dX6_cellOf_5 : decode cX6_cellOf 5 = .ok (.iadd, 1) := by decide +kernel
theorem dX6_cellOf_6 : decode cX6_cellOf 6 = .ok (.ireturn, 1) := by decide +kernel
def FX6_cellOf (T : zT) (p0 : Int32) (p1 : Int32) (h : zH) : Option Int32 := some ((9 * p0) + p1)
set_option maxHeartbeats 4000000 in
set_option maxRecDepth 100000 in
theorem BX6_cellOf {X : zX} (C : zC X cX6_cellOf 2 RX6 "cellOf" (some .int) 0 0) {al : Bool} {hi : Nat} {h : zH} {p0 : Int32} {p1 : Int32} {r9 : Int32} (hf : FX6_cellOf (xT X) p0 p1 h = some r9) : zW X 2 (zZ X al (some (.int r9), hi, h)) 0 0 al hi h 0 [(0, .int p0), (1, .int p1)] [] := by
  unfold FX6_cellOf at hf
  refine z_bipush C (v := 9) dX6_cellOf_0 (by decide) ?_
  refine z_iload_n C dX6_cellOf_2 0 rfl rfl ?_
  refine z_imul C dX6_cellOf_3 ?_
  refine z_iload_n C dX6_cellOf_4 1 rfl rfl ?_
  refine z_iadd C dX6_cellOf_5 ?_
  exact z_ireturn C dX6_cellOf_6 (by cases hf; rfl)
theorem MX6_cellOf (l : Launch) (D : va_G) (T : zT) (lo : Nat) (al : Bool) (hi : Nat) {h : zH} {p0 : Int32} {p1 : Int32} {v9 : Int32} (hf : FX6_cellOf T p0 p1 h = some v9) : zM l yX6_cellOf (.code yX6_cellOf cX6_cellOf 2 (some .int) :: TW) ({ frames := 0, cells := 0, slots := 0, locals := 0 } : Room) D T lo al [.int p0, .int p1] hi h (some (.int v9), hi, h) :=
  z_enter (own := RX6) (nm := "cellOf") (lv := [(0, .int p0), (1, .int p1)]) (by decide +kernel) rfl rfl (Nat.le_of_ble_eq_true rfl) rfl (fun _ _ _ _ _ _ _ _ C => BX6_cellOf C hf)
theorem dX3_marksIn_0 : decode cX3_marksIn 0 = .ok (.aload_n 0, 1) := by decide +kernel
theorem dX3_marksIn_1 : decode cX3_marksIn 1 = .ok (.iload_n 1, 1) := by decide +kernel
theorem dX3_marksIn_2 : decode cX3_marksIn 2 = .ok (.iload_n 2, 1) := by decide +kernel
theorem dX3_marksIn_3 : decode cX3_marksIn 3 = .ok (.invokevirtual 75, 3) := by decide +kernel
theorem dX3_marksIn_6 : decode cX3_marksIn 6 = .ok (.ifCond .eq 18, 3) := by decide +kernel
theorem dX3_marksIn_9 : decode cX3_marksIn 9 = .ok (.aload_n 0, 1) := by decide +kernel
theorem dX3_marksIn_10 : decode cX3_marksIn 10 = .ok (.getfield 26, 3) := by decide +kernel
theorem dX3_marksIn_13 : decode cX3_marksIn 13 = .ok (.iload_n 1, 1) := by decide +kernel
theorem dX3_marksIn_14 : decode cX3_marksIn 14 = .ok (.iload_n 2, 1) := by decide +kernel
theorem dX3_marksIn_15 : decode cX3_marksIn 15 = .ok (.invokestatic 79, 3) := by decide +kernel
theorem dX3_marksIn_18 : decode cX3_marksIn 18 = .ok (.invokevirtual 83, 3) := by decide +kernel
theorem dX3_marksIn_21 : decode cX3_marksIn 21 = .ok (.goto 4, 3) := by decide +kernel
theorem dX3_marksIn_24 : decode cX3_marksIn 24 = .ok (.iconst 0, 1) := by decide +kernel
theorem dX3_marksIn_25 : decode cX3_marksIn 25 = .ok (.ireturn, 1) := by decide +kernel
def FX3_marksIn (T : zT) (a0 : Nat) (p0 : Int32) (p1 : Int32) (h : zH) : Option Int32 := (zo h a0 3).bind fun _ => zJ (fun (x1 : Int32) => some x1) (fun J2 => (FX3_hasCell T a0 p0 p1 h).bind fun x4 => if x4 = 0 then (J2 0) else ((zgr h a0 3 7).bind fun x5 => (FX6_cellOf T p0 p1 h).bind fun x7 => (FX1_at T x5 x7 h).bind fun x9 => J2 x9))
set_option maxHeartbeats 4000000 in
set_option maxRecDepth 100000 in
theorem BX3_marksIn {X : zX} (C : zC X cX3_marksIn 3 RX3 "marksIn" (some .int) 1 22) {al : Bool} {hi : Nat} {h : zH} {a0 : Nat} {p0 : Int32} {p1 : Int32} {r9 : Int32} (hf : FX3_marksIn (xT X) a0 p0 p1 h = some r9) : zW X 3 (zZ X al (some (.int r9), hi, h)) 0 0 al hi h 0 [(0, .ref a0), (1, .int p0), (2, .int p1)] [] := by
  unfold FX3_marksIn at hf
  obtain ⟨_, _, hf⟩ := zbind hf
  refine z_join (P := fun J => ∀ (x1 : Int32), J x1 = some r9 → zW X 3 (zZ X al (some (.int r9), hi, h)) 0 0 al hi h 25 [] [.int x1]) hf ?_ ?_
  · intro x1 hf
    exact z_ireturn C dX3_marksIn_25 (by cases hf; rfl)
  · intro J2 kJ2 hf
    refine z_aload_n C dX3_marksIn_0 0 rfl rfl ?_
    refine z_iload_n C dX3_marksIn_1 1 rfl rfl ?_
    refine z_iload_n C dX3_marksIn_2 2 rfl rfl ?_
    obtain ⟨x4, g3, hf⟩ := zbind hf
    refine z_callV (kc' := 0) (ks' := 0) C (MX3_hasCell (xl X) (xD X) (xT X) (xlo X) al hi g3) (OX3_hasCell g3) rfl cw_X3_75 yv_X3_hasCell dX3_marksIn_3 rfl (by decide) ⟨rfl, rfl⟩ (Nat.le_of_ble_eq_true rfl) (st := []) rfl ?_
    refine z_if_eq (tgt := 24) C dX3_marksIn_6 (by decide) hf (fun hf => ?_) (fun hf => ?_)
    · refine z_iconst C (v := 0) dX3_marksIn_24 (by decide) ?_
      refine z_sub [] rfl ?_
      exact kJ2 _ hf
    · refine z_aload_n C dX3_marksIn_9 0 rfl rfl ?_
      refine z_getR C fl_X3_26 dX3_marksIn_10 hf (fun x5 hf => ?_)
      refine z_iload_n C dX3_marksIn_13 1 rfl rfl ?_
      refine z_iload_n C dX3_marksIn_14 2 rfl rfl ?_
      obtain ⟨x7, g6, hf⟩ := zbind hf
      refine z_callSN (kc' := 0) (ks' := 0) C (MX6_cellOf (xl X) (xD X) (xT X) (xlo X) al hi g6) cw_X3_79 nw_X3_79 mw_393 mw_26 ys_X6_cellOf dX3_marksIn_15 rfl (by decide) ⟨rfl, rfl⟩ (Nat.le_of_ble_eq_true rfl) (st := [.ref x5]) rfl ?_
      obtain ⟨x9, g8, hf⟩ := zbind hf
      refine z_callV (kc' := 0) (ks' := 0) C (MX1_at (xl X) (xD X) (xT X) (xlo X) al hi g8) (OX1_at g8) rfl cw_X3_83 yv_X1_at dX3_marksIn_18 rfl (by decide) ⟨rfl, rfl⟩ (Nat.le_of_ble_eq_true rfl) (st := []) rfl ?_
      refine z_goto (tgt := 25) C dX3_marksIn_21 (by decide) ?_
      refine z_sub [] rfl ?_
      exact kJ2 _ hf
theorem MX3_marksIn (l : Launch) (D : va_G) (T : zT) (lo : Nat) (al : Bool) (hi : Nat) {h : zH} {a0 : Nat} {p0 : Int32} {p1 : Int32} {v9 : Int32} (hf : FX3_marksIn T a0 p0 p1 h = some v9) : zM l yX3_marksIn (.code yX3_marksIn cX3_marksIn 3 (some .int) :: TW) ({ frames := 1, cells := 0, slots := 0, locals := 22 } : Room) D T lo al [.ref a0, .int p0, .int p1] hi h (some (.int v9), hi, h) :=
  z_enter (own := RX3) (nm := "marksIn") (lv := [(0, .ref a0), (1, .int p0), (2, .int p1)]) (by decide +kernel) rfl rfl (Nat.le_of_ble_eq_true rfl) rfl (fun _ _ _ _ _ _ _ _ C => BX3_marksIn C hf)
theorem OX3_marksIn {T : zT} {h : zH} {a0 : Nat} {p0 : Int32} {p1 : Int32} {r9 : Int32} (hf : FX3_marksIn T a0 p0 p1 h = some r9) : ∃ fs, h a0 = some (.inr (3, fs)) := by
  obtain ⟨_, h1, _⟩ := zbind hf
  exact zo_obj h1
theorem dX3_hasMark_0 : decode cX3_hasMark 0 = .ok (.aload_n 0, 1) := by decide +kernel
theorem dX3_hasMark_1 : decode cX3_hasMark 1 = .ok (.iload_n 1, 1) := by decide +kernel
theorem dX3_hasMark_2 : decode cX3_hasMark 2 = .ok (.iload_n 2, 1) := by decide +kernel
theorem dX3_hasMark_3 : decode cX3_hasMark 3 = .ok (.invokevirtual 75, 3) := by decide +kernel
theorem dX3_hasMark_6 : decode cX3_hasMark 6 = .ok (.ifCond .eq 27, 3) := by decide +kernel
theorem dX3_hasMark_9 : decode cX3_hasMark 9 = .ok (.iload_n 3, 1) := by decide +kernel
theorem dX3_hasMark_10 : decode cX3_hasMark 10 = .ok (.ifCond .lt 23, 3) := by decide +kernel
theorem dX3_hasMark_13 : decode cX3_hasMark 13 = .ok (.iload_n 3, 1) := by decide +kernel
theorem dX3_hasMark_14 : decode cX3_hasMark 14 = .ok (.aload_n 0, 1) := by decide +kernel
theorem dX3_hasMark_15 : decode cX3_hasMark 15 = .ok (.getfield 26, 3) := by decide +kernel
theorem dX3_hasMark_18 : decode cX3_hasMark 18 = .ok (.iload_n 1, 1) := by decide +kernel
theorem dX3_hasMark_19 : decode cX3_hasMark 19 = .ok (.iload_n 2, 1) := by decide +kernel
theorem dX3_hasMark_20 : decode cX3_hasMark 20 = .ok (.invokestatic 79, 3) := by decide +kernel
theorem dX3_hasMark_23 : decode cX3_hasMark 23 = .ok (.invokevirtual 83, 3) := by decide +kernel
theorem dX3_hasMark_26 : decode cX3_hasMark 26 = .ok (.if_icmp .ge 7, 3) := by decide +kernel
theorem dX3_hasMark_29 : decode cX3_hasMark 29 = .ok (.iconst 1, 1) := by decide +kernel
theorem dX3_hasMark_30 : decode cX3_hasMark 30 = .ok (.goto 4, 3) := by decide +kernel
theorem dX3_hasMark_33 : decode cX3_hasMark 33 = .ok (.iconst 0, 1) := by decide +kernel
theorem dX3_hasMark_34 : decode cX3_hasMark 34 = .ok (.ireturn, 1) := by decide +kernel
def FX3_hasMark (T : zT) (a0 : Nat) (p0 : Int32) (p1 : Int32) (p2 : Int32) (h : zH) : Option Int32 := (zo h a0 3).bind fun _ => zJ (fun (x1 : Int32) => if x1 = 0 ∨ x1 = 1 then some x1 else none) (fun J2 => zJ (fun (u9 : Unit) => J2 0) (fun J3 => (FX3_hasCell T a0 p0 p1 h).bind fun x5 => if x5 = 0 then (J3 ()) else (if p2 < 0 then (J3 ()) else ((zgr h a0 3 7).bind fun x6 => (FX6_cellOf T p0 p1 h).bind fun x8 => (FX1_at T x6 x8 h).bind fun x10 => if x10 ≤ p2 then (J3 ()) else (J2 1)))))
set_option maxHeartbeats 4000000 in
set_option maxRecDepth 100000 in
theorem BX3_hasMark {X : zX} (C : zC X cX3_hasMark 4 RX3 "hasMark" (some .boolean) 1 22) {al : Bool} {hi : Nat} {h : zH} {a0 : Nat} {p0 : Int32} {p1 : Int32} {p2 : Int32} {r9 : Int32} (hf : FX3_hasMark (xT X) a0 p0 p1 p2 h = some r9) : zW X 4 (zZ X al (some (.int r9), hi, h)) 0 0 al hi h 0 [(0, .ref a0), (1, .int p0), (2, .int p1), (3, .int p2)] [] := by
  unfold FX3_hasMark at hf
  obtain ⟨_, _, hf⟩ := zbind hf
  refine z_join (P := fun J => ∀ (x1 : Int32), J x1 = some r9 → zW X 4 (zZ X al (some (.int r9), hi, h)) 0 0 al hi h 34 [] [.int x1]) hf ?_ ?_
  · intro x1 hf
    refine z_ite hf (fun c hf => ?_) (fun c hf => nomatch hf)
    exact z_zreturn C dX3_hasMark_34 c (by cases hf; rfl)
  · intro J2 kJ2 hf
    refine z_join (P := fun J => ∀ (u9 : Unit), J u9 = some r9 → zW X 4 (zZ X al (some (.int r9), hi, h)) 0 0 al hi h 33 [] []) hf ?_ ?_
    · intro u9 hf
      refine z_iconst C (v := 0) dX3_hasMark_33 (by decide) ?_
      exact kJ2 _ hf
    · intro J3 kJ3 hf
      refine z_aload_n C dX3_hasMark_0 0 rfl rfl ?_
      refine z_iload_n C dX3_hasMark_1 1 rfl rfl ?_
      refine z_iload_n C dX3_hasMark_2 2 rfl rfl ?_
      obtain ⟨x5, g4, hf⟩ := zbind hf
      refine z_callV (kc' := 0) (ks' := 0) C (MX3_hasCell (xl X) (xD X) (xT X) (xlo X) al hi g4) (OX3_hasCell g4) rfl cw_X3_75 yv_X3_hasCell dX3_hasMark_3 rfl (by decide) ⟨rfl, rfl⟩ (Nat.le_of_ble_eq_true rfl) (st := []) rfl ?_
      refine z_if_eq (tgt := 33) C dX3_hasMark_6 (by decide) hf (fun hf => ?_) (fun hf => ?_)
      · refine z_sub [] rfl ?_
        exact kJ3 _ hf
      · refine z_iload_n C dX3_hasMark_9 3 rfl rfl ?_
        refine z_if_lt (tgt := 33) C dX3_hasMark_10 (by decide) hf (fun hf => ?_) (fun hf => ?_)
        · refine z_sub [] rfl ?_
          exact kJ3 _ hf
        · refine z_iload_n C dX3_hasMark_13 3 rfl rfl ?_
          refine z_aload_n C dX3_hasMark_14 0 rfl rfl ?_
          refine z_getR C fl_X3_26 dX3_hasMark_15 hf (fun x6 hf => ?_)
          refine z_iload_n C dX3_hasMark_18 1 rfl rfl ?_
          refine z_iload_n C dX3_hasMark_19 2 rfl rfl ?_
          obtain ⟨x8, g7, hf⟩ := zbind hf
          refine z_callSN (kc' := 0) (ks' := 0) C (MX6_cellOf (xl X) (xD X) (xT X) (xlo X) al hi g7) cw_X3_79 nw_X3_79 mw_393 mw_26 ys_X6_cellOf dX3_hasMark_20 rfl (by decide) ⟨rfl, rfl⟩ (Nat.le_of_ble_eq_true rfl) (st := [.ref x6, .int p2]) rfl ?_
          obtain ⟨x10, g9, hf⟩ := zbind hf
          refine z_callV (kc' := 0) (ks' := 0) C (MX1_at (xl X) (xD X) (xT X) (xlo X) al hi g9) (OX1_at g9) rfl cw_X3_83 yv_X1_at dX3_hasMark_23 rfl (by decide) ⟨rfl, rfl⟩ (Nat.le_of_ble_eq_true rfl) (st := [.int p2]) rfl ?_
          refine z_icmp_ge (tgt := 33) C dX3_hasMark_26 (by decide) hf (fun hf => ?_) (fun hf => ?_)
          · refine z_sub [] rfl ?_
            exact kJ3 _ hf
          · refine z_iconst C (v := 1) dX3_hasMark_29 (by decide) ?_
            refine z_goto (tgt := 34) C dX3_hasMark_30 (by decide) ?_
            refine z_sub [] rfl ?_
            exact kJ2 _ hf
theorem MX3_hasMark (l : Launch) (D : va_G) (T : zT) (lo : Nat) (al : Bool) (hi : Nat) {h : zH} {a0 : Nat} {p0 : Int32} {p1 : Int32} {p2 : Int32} {v9 : Int32} (hf : FX3_hasMark T a0 p0 p1 p2 h = some v9) : zM l yX3_hasMark (.code yX3_hasMark cX3_hasMark 4 (some .boolean) :: TW) ({ frames := 1, cells := 0, slots := 0, locals := 22 } : Room) D T lo al [.ref a0, .int p0, .int p1, .int p2] hi h (some (.int v9), hi, h) :=
  z_enter (own := RX3) (nm := "hasMark") (lv := [(0, .ref a0), (1, .int p0), (2, .int p1), (3, .int p2)]) (by decide +kernel) rfl rfl (Nat.le_of_ble_eq_true rfl) rfl (fun _ _ _ _ _ _ _ _ C => BX3_hasMark C hf)
theorem OX3_hasMark {T : zT} {h : zH} {a0 : Nat} {p0 : Int32} {p1 : Int32} {p2 : Int32} {r9 : Int32} (hf : FX3_hasMark T a0 p0 p1 p2 h = some r9) : ∃ fs, h a0 = some (.inr (3, fs)) := by
  obtain ⟨_, h1, _⟩ := zbind hf
  exact zo_obj h1
theorem dX3_hasRoom_0 : decode cX3_hasRoom 0 = .ok (.aload_n 0, 1) := by decide +kernel
theorem dX3_hasRoom_1 : decode cX3_hasRoom 1 = .ok (.iload_n 1, 1) := by decide +kernel
theorem dX3_hasRoom_2 : decode cX3_hasRoom 2 = .ok (.iload_n 2, 1) := by decide +kernel
theorem dX3_hasRoom_3 : decode cX3_hasRoom 3 = .ok (.invokevirtual 75, 3) := by decide +kernel
theorem dX3_hasRoom_6 : decode cX3_hasRoom 6 = .ok (.ifCond .eq 23, 3) := by decide +kernel
theorem dX3_hasRoom_9 : decode cX3_hasRoom 9 = .ok (.aload_n 0, 1) := by decide +kernel
theorem dX3_hasRoom_10 : decode cX3_hasRoom 10 = .ok (.getfield 26, 3) := by decide +kernel
theorem dX3_hasRoom_13 : decode cX3_hasRoom 13 = .ok (.iload_n 1, 1) := by decide +kernel
theorem dX3_hasRoom_14 : decode cX3_hasRoom 14 = .ok (.iload_n 2, 1) := by decide +kernel
theorem dX3_hasRoom_15 : decode cX3_hasRoom 15 = .ok (.invokestatic 79, 3) := by decide +kernel
theorem dX3_hasRoom_18 : decode cX3_hasRoom 18 = .ok (.invokevirtual 83, 3) := by decide +kernel
theorem dX3_hasRoom_21 : decode cX3_hasRoom 21 = .ok (.iconst 2, 1) := by decide +kernel
theorem dX3_hasRoom_22 : decode cX3_hasRoom 22 = .ok (.if_icmp .ge 7, 3) := by decide +kernel
theorem dX3_hasRoom_25 : decode cX3_hasRoom 25 = .ok (.iconst 1, 1) := by decide +kernel
theorem dX3_hasRoom_26 : decode cX3_hasRoom 26 = .ok (.goto 4, 3) := by decide +kernel
theorem dX3_hasRoom_29 : decode cX3_hasRoom 29 = .ok (.iconst 0, 1) := by decide +kernel
theorem dX3_hasRoom_30 : decode cX3_hasRoom 30 = .ok (.ireturn, 1) := by decide +kernel
def FX3_hasRoom (T : zT) (a0 : Nat) (p0 : Int32) (p1 : Int32) (h : zH) : Option Int32 := (zo h a0 3).bind fun _ => zJ (fun (x1 : Int32) => if x1 = 0 ∨ x1 = 1 then some x1 else none) (fun J2 => zJ (fun (u9 : Unit) => J2 0) (fun J3 => (FX3_hasCell T a0 p0 p1 h).bind fun x5 => if x5 = 0 then (J3 ()) else ((zgr h a0 3 7).bind fun x6 => (FX6_cellOf T p0 p1 h).bind fun x8 => (FX1_at T x6 x8 h).bind fun x10 => if 2 ≤ x10 then (J3 ()) else (J2 1))))
set_option maxHeartbeats 4000000 in
set_option maxRecDepth 100000 in
theorem BX3_hasRoom {X : zX} (C : zC X cX3_hasRoom 3 RX3 "hasRoom" (some .boolean) 1 22) {al : Bool} {hi : Nat} {h : zH} {a0 : Nat} {p0 : Int32} {p1 : Int32} {r9 : Int32} (hf : FX3_hasRoom (xT X) a0 p0 p1 h = some r9) : zW X 3 (zZ X al (some (.int r9), hi, h)) 0 0 al hi h 0 [(0, .ref a0), (1, .int p0), (2, .int p1)] [] := by
  unfold FX3_hasRoom at hf
  obtain ⟨_, _, hf⟩ := zbind hf
  refine z_join (P := fun J => ∀ (x1 : Int32), J x1 = some r9 → zW X 3 (zZ X al (some (.int r9), hi, h)) 0 0 al hi h 30 [] [.int x1]) hf ?_ ?_
  · intro x1 hf
    refine z_ite hf (fun c hf => ?_) (fun c hf => nomatch hf)
    exact z_zreturn C dX3_hasRoom_30 c (by cases hf; rfl)
  · intro J2 kJ2 hf
    refine z_join (P := fun J => ∀ (u9 : Unit), J u9 = some r9 → zW X 3 (zZ X al (some (.int r9), hi, h)) 0 0 al hi h 29 [] []) hf ?_ ?_
    · intro u9 hf
      refine z_iconst C (v := 0) dX3_hasRoom_29 (by decide) ?_
      exact kJ2 _ hf
    · intro J3 kJ3 hf
      refine z_aload_n C dX3_hasRoom_0 0 rfl rfl ?_
      refine z_iload_n C dX3_hasRoom_1 1 rfl rfl ?_
      refine z_iload_n C dX3_hasRoom_2 2 rfl rfl ?_
      obtain ⟨x5, g4, hf⟩ := zbind hf
      refine z_callV (kc' := 0) (ks' := 0) C (MX3_hasCell (xl X) (xD X) (xT X) (xlo X) al hi g4) (OX3_hasCell g4) rfl cw_X3_75 yv_X3_hasCell dX3_hasRoom_3 rfl (by decide) ⟨rfl, rfl⟩ (Nat.le_of_ble_eq_true rfl) (st := []) rfl ?_
      refine z_if_eq (tgt := 29) C dX3_hasRoom_6 (by decide) hf (fun hf => ?_) (fun hf => ?_)
      · refine z_sub [] rfl ?_
        exact kJ3 _ hf
      · refine z_aload_n C dX3_hasRoom_9 0 rfl rfl ?_
        refine z_getR C fl_X3_26 dX3_hasRoom_10 hf (fun x6 hf => ?_)
        refine z_iload_n C dX3_hasRoom_13 1 rfl rfl ?_
        refine z_iload_n C dX3_hasRoom_14 2 rfl rfl ?_
        obtain ⟨x8, g7, hf⟩ := zbind hf
        refine z_callSN (kc' := 0) (ks' := 0) C (MX6_cellOf (xl X) (xD X) (xT X) (xlo X) al hi g7) cw_X3_79 nw_X3_79 mw_393 mw_26 ys_X6_cellOf dX3_hasRoom_15 rfl (by decide) ⟨rfl, rfl⟩ (Nat.le_of_ble_eq_true rfl) (st := [.ref x6]) rfl ?_
        obtain ⟨x10, g9, hf⟩ := zbind hf
        refine z_callV (kc' := 0) (ks' := 0) C (MX1_at (xl X) (xD X) (xT X) (xlo X) al hi g9) (OX1_at g9) rfl cw_X3_83 yv_X1_at dX3_hasRoom_18 rfl (by decide) ⟨rfl, rfl⟩ (Nat.le_of_ble_eq_true rfl) (st := []) rfl ?_
        refine z_iconst C (v := 2) dX3_hasRoom_21 (by decide) ?_
        refine z_icmp_ge (tgt := 29) C dX3_hasRoom_22 (by decide) hf (fun hf => ?_) (fun hf => ?_)
        · refine z_sub [] rfl ?_
          exact kJ3 _ hf
        · refine z_iconst C (v := 1) dX3_hasRoom_25 (by decide) ?_
          refine z_goto (tgt := 30) C dX3_hasRoom_26 (by decide) ?_
          refine z_sub [] rfl ?_
          exact kJ2 _ hf
theorem MX3_hasRoom (l : Launch) (D : va_G) (T : zT) (lo : Nat) (al : Bool) (hi : Nat) {h : zH} {a0 : Nat} {p0 : Int32} {p1 : Int32} {v9 : Int32} (hf : FX3_hasRoom T a0 p0 p1 h = some v9) : zM l yX3_hasRoom (.code yX3_hasRoom cX3_hasRoom 3 (some .boolean) :: TW) ({ frames := 1, cells := 0, slots := 0, locals := 22 } : Room) D T lo al [.ref a0, .int p0, .int p1] hi h (some (.int v9), hi, h) :=
  z_enter (own := RX3) (nm := "hasRoom") (lv := [(0, .ref a0), (1, .int p0), (2, .int p1)]) (by decide +kernel) rfl rfl (Nat.le_of_ble_eq_true rfl) rfl (fun _ _ _ _ _ _ _ _ C => BX3_hasRoom C hf)
theorem OX3_hasRoom {T : zT} {h : zH} {a0 : Nat} {p0 : Int32} {p1 : Int32} {r9 : Int32} (hf : FX3_hasRoom T a0 p0 p1 h = some r9) : ∃ fs, h a0 = some (.inr (3, fs)) := by
  obtain ⟨_, h1, _⟩ := zbind hf
  exact zo_obj h1
theorem dX3_columnHasRoom_0 : decode cX3_columnHasRoom 0 = .ok (.iconst 0, 1) := by decide +kernel
theorem dX3_columnHasRoom_1 : decode cX3_columnHasRoom 1 = .ok (.istore_n 2, 1) := by decide +kernel
theorem dX3_columnHasRoom_2 : decode cX3_columnHasRoom 2 = .ok (.iload_n 2, 1) := by decide +kernel
theorem dX3_columnHasRoom_3 : decode cX3_columnHasRoom 3 = .ok (.aload_n 0, 1) := by decide +kernel
theorem dX3_columnHasRoom_4 : decode cX3_columnHasRoom 4 = .ok (.getfield 65, 3) := by decide +kernel
theorem dX3_columnHasRoom_7 : decode cX3_columnHasRoom 7 = .ok (.if_icmp .ge 20, 3) := by decide +kernel
theorem dX3_columnHasRoom_10 : decode cX3_columnHasRoom 10 = .ok (.aload_n 0, 1) := by decide +kernel
theorem dX3_columnHasRoom_11 : decode cX3_columnHasRoom 11 = .ok (.iload_n 1, 1) := by decide +kernel
theorem dX3_columnHasRoom_12 : decode cX3_columnHasRoom 12 = .ok (.iload_n 2, 1) := by decide +kernel
theorem dX3_columnHasRoom_13 : decode cX3_columnHasRoom 13 = .ok (.invokevirtual 87, 3) := by decide +kernel
theorem dX3_columnHasRoom_16 : decode cX3_columnHasRoom 16 = .ok (.ifCond .eq 5, 3) := by decide +kernel
theorem dX3_columnHasRoom_19 : decode cX3_columnHasRoom 19 = .ok (.iconst 1, 1) := by decide +kernel
theorem dX3_columnHasRoom_20 : decode cX3_columnHasRoom 20 = .ok (.ireturn, 1) := by decide +kernel
theorem dX3_columnHasRoom_21 : decode cX3_columnHasRoom 21 = .ok (.iinc 2 1, 3) := by decide +kernel
theorem dX3_columnHasRoom_24 : decode cX3_columnHasRoom 24 = .ok (.goto (-22), 3) := by decide +kernel
theorem dX3_columnHasRoom_27 : decode cX3_columnHasRoom 27 = .ok (.iconst 0, 1) := by decide +kernel
theorem dX3_columnHasRoom_28 : decode cX3_columnHasRoom 28 = .ok (.ireturn, 1) := by decide +kernel
def LX3_columnHasRoom_2 {ρ : Type} (T : zT) (h4 : zH) (x1 : Nat) (x2 : Int32) (K0 : Unit → Option ρ) (K1 : Unit → Option ρ) : Nat → Int32 → Option ρ
  | 0, _ => none
  | k + 1, x3 => (zgi h4 x1 3 1).bind fun x5 => if x5 ≤ x3 then (K1 ()) else ((FX3_hasRoom T x1 x2 x3 h4).bind fun x7 => if x7 = 0 then (LX3_columnHasRoom_2 T h4 x1 x2 K0 K1 k (x3 + 1)) else (K0 ()))
set_option maxHeartbeats 4000000 in
set_option maxRecDepth 100000 in
theorem LX3_columnHasRoom_2_ok {X : zX} (C : zC X cX3_columnHasRoom 3 RX3 "columnHasRoom" (some .boolean) 2 44) {Z : State → Prop} {al : Bool} {hi : Nat} {ρ : Type} {r9 : ρ} {h4 : zH} {x1 : Nat} {x2 : Int32} {K0 : Unit → Option ρ} {K1 : Unit → Option ρ} (hK0 : ∀ (u9 : Unit), K0 u9 = some r9 → zW X 3 Z 0 0 al hi h4 19 [] []) (hK1 : ∀ (u9 : Unit), K1 u9 = some r9 → zW X 3 Z 0 0 al hi h4 27 [] []) : ∀ (k : Nat) (x3 : Int32), LX3_columnHasRoom_2 (xT X) h4 x1 x2 K0 K1 k x3 = some r9 → zW X 3 Z 0 0 al hi h4 2 [(0, .ref x1), (1, .int x2), (2, .int x3)] [] := by
  intro k
  induction k with
  | zero =>
    intro x3 hf
    have hf : none = some r9 := hf
    cases hf
  | succ k ih =>
    intro x3 hf
    rw [LX3_columnHasRoom_2.eq_2] at hf
    refine z_iload_n C dX3_columnHasRoom_2 2 rfl rfl ?_
    refine z_aload_n C dX3_columnHasRoom_3 0 rfl rfl ?_
    refine z_getI C fl_X3_65 dX3_columnHasRoom_4 hf (fun x5 hf => ?_)
    refine z_icmp_ge (tgt := 27) C dX3_columnHasRoom_7 (by decide) hf (fun hf => ?_) (fun hf => ?_)
    · refine z_sub [] rfl ?_
      exact hK1 _ hf
    · refine z_aload_n C dX3_columnHasRoom_10 0 rfl rfl ?_
      refine z_iload_n C dX3_columnHasRoom_11 1 rfl rfl ?_
      refine z_iload_n C dX3_columnHasRoom_12 2 rfl rfl ?_
      obtain ⟨x7, g6, hf⟩ := zbind hf
      refine z_callV (kc' := 0) (ks' := 0) C (MX3_hasRoom (xl X) (xD X) (xT X) (xlo X) al hi g6) (OX3_hasRoom g6) rfl cw_X3_87 yv_X3_hasRoom dX3_columnHasRoom_13 rfl (by decide) ⟨rfl, rfl⟩ (Nat.le_of_ble_eq_true rfl) (st := []) rfl ?_
      refine z_if_eq (tgt := 21) C dX3_columnHasRoom_16 (by decide) hf (fun hf => ?_) (fun hf => ?_)
      · refine z_iinc C dX3_columnHasRoom_21 (k := 2) (d := 1) rfl (by decide) (by decide) (lv' := [(2, .int (x3 + 1)), (0, .ref x1), (1, .int x2)]) rfl ?_
        refine z_goto (tgt := 2) C dX3_columnHasRoom_24 (by decide) ?_
        refine z_sub [1, 2, 0] rfl ?_
        exact ih _ hf
      · refine z_sub [] rfl ?_
        exact hK0 _ hf
def FX3_columnHasRoom (T : zT) (a0 : Nat) (p0 : Int32) (h : zH) : Option Int32 := (zo h a0 3).bind fun _ => LX3_columnHasRoom_2 T h a0 p0 (fun (u9 : Unit) => some 1) (fun (u9 : Unit) => some 0) FUEL 0
set_option maxHeartbeats 4000000 in
set_option maxRecDepth 100000 in
theorem BX3_columnHasRoom {X : zX} (C : zC X cX3_columnHasRoom 3 RX3 "columnHasRoom" (some .boolean) 2 44) {al : Bool} {hi : Nat} {h : zH} {a0 : Nat} {p0 : Int32} {r9 : Int32} (hf : FX3_columnHasRoom (xT X) a0 p0 h = some r9) : zW X 3 (zZ X al (some (.int r9), hi, h)) 0 0 al hi h 0 [(0, .ref a0), (1, .int p0)] [] := by
  unfold FX3_columnHasRoom at hf
  obtain ⟨_, _, hf⟩ := zbind hf
  refine z_iconst C (v := 0) dX3_columnHasRoom_0 (by decide) ?_
  refine z_istore_n C dX3_columnHasRoom_1 rfl (by decide) (lv' := [(2, .int 0), (0, .ref a0), (1, .int p0)]) rfl ?_
  refine z_sub [1, 2, 0] rfl ?_
  refine LX3_columnHasRoom_2_ok C ?_ ?_ FUEL _ hf
  · intro u9 hf
    refine z_iconst C (v := 1) dX3_columnHasRoom_19 (by decide) ?_
    exact z_zreturn C dX3_columnHasRoom_20 (Or.inr rfl) (by cases hf; rfl)
  · intro u9 hf
    refine z_iconst C (v := 0) dX3_columnHasRoom_27 (by decide) ?_
    exact z_zreturn C dX3_columnHasRoom_28 (Or.inl rfl) (by cases hf; rfl)
theorem MX3_columnHasRoom (l : Launch) (D : va_G) (T : zT) (lo : Nat) (al : Bool) (hi : Nat) {h : zH} {a0 : Nat} {p0 : Int32} {v9 : Int32} (hf : FX3_columnHasRoom T a0 p0 h = some v9) : zM l yX3_columnHasRoom (.code yX3_columnHasRoom cX3_columnHasRoom 3 (some .boolean) :: TW) ({ frames := 2, cells := 0, slots := 0, locals := 44 } : Room) D T lo al [.ref a0, .int p0] hi h (some (.int v9), hi, h) :=
  z_enter (own := RX3) (nm := "columnHasRoom") (lv := [(0, .ref a0), (1, .int p0)]) (by decide +kernel) rfl rfl (Nat.le_of_ble_eq_true rfl) rfl (fun _ _ _ _ _ _ _ _ C => BX3_columnHasRoom C hf)
theorem OX3_columnHasRoom {T : zT} {h : zH} {a0 : Nat} {p0 : Int32} {r9 : Int32} (hf : FX3_columnHasRoom T a0 p0 h = some r9) : ∃ fs, h a0 = some (.inr (3, fs)) := by
  obtain ⟨_, h1, _⟩ := zbind hf
  exact zo_obj h1
theorem dX3_hasRoomAnywhere_0 : decode cX3_hasRoomAnywhere 0 = .ok (.iconst 0, 1) := by decide +kernel
theorem dX3_hasRoomAnywhere_1 : decode cX3_hasRoomAnywhere 1 = .ok (.istore_n 1, 1) := by decide +kernel
theorem dX3_hasRoomAnywhere_2 : decode cX3_hasRoomAnywhere 2 = .ok (.iload_n 1, 1) := by decide +kernel
theorem dX3_hasRoomAnywhere_3 : decode cX3_hasRoomAnywhere 3 = .ok (.aload_n 0, 1) := by decide +kernel
theorem dX3_hasRoomAnywhere_4 : decode cX3_hasRoomAnywhere 4 = .ok (.getfield 62, 3) := by decide +kernel
theorem dX3_hasRoomAnywhere_7 : decode cX3_hasRoomAnywhere 7 = .ok (.if_icmp .ge 19, 3) := by decide +kernel
theorem dX3_hasRoomAnywhere_10 : decode cX3_hasRoomAnywhere 10 = .ok (.aload_n 0, 1) := by decide +kernel
theorem dX3_hasRoomAnywhere_11 : decode cX3_hasRoomAnywhere 11 = .ok (.iload_n 1, 1) := by decide +kernel
theorem dX3_hasRoomAnywhere_12 : decode cX3_hasRoomAnywhere 12 = .ok (.invokevirtual 90, 3) := by decide +kernel
theorem dX3_hasRoomAnywhere_15 : decode cX3_hasRoomAnywhere 15 = .ok (.ifCond .eq 5, 3) := by decide +kernel
theorem dX3_hasRoomAnywhere_18 : decode cX3_hasRoomAnywhere 18 = .ok (.iconst 1, 1) := by decide +kernel
theorem dX3_hasRoomAnywhere_19 : decode cX3_hasRoomAnywhere 19 = .ok (.ireturn, 1) := by decide +kernel
theorem dX3_hasRoomAnywhere_20 : decode cX3_hasRoomAnywhere 20 = .ok (.iinc 1 1, 3) := by decide +kernel
theorem dX3_hasRoomAnywhere_23 : decode cX3_hasRoomAnywhere 23 = .ok (.goto (-21), 3) := by decide +kernel
theorem dX3_hasRoomAnywhere_26 : decode cX3_hasRoomAnywhere 26 = .ok (.iconst 0, 1) := by decide +kernel
theorem dX3_hasRoomAnywhere_27 : decode cX3_hasRoomAnywhere 27 = .ok (.ireturn, 1) := by decide +kernel
def LX3_hasRoomAnywhere_2 {ρ : Type} (T : zT) (h3 : zH) (x1 : Nat) (K0 : Unit → Option ρ) (K1 : Unit → Option ρ) : Nat → Int32 → Option ρ
  | 0, _ => none
  | k + 1, x2 => (zgi h3 x1 3 0).bind fun x4 => if x4 ≤ x2 then (K1 ()) else ((FX3_columnHasRoom T x1 x2 h3).bind fun x6 => if x6 = 0 then (LX3_hasRoomAnywhere_2 T h3 x1 K0 K1 k (x2 + 1)) else (K0 ()))
set_option maxHeartbeats 4000000 in
set_option maxRecDepth 100000 in
theorem LX3_hasRoomAnywhere_2_ok {X : zX} (C : zC X cX3_hasRoomAnywhere 2 RX3 "hasRoomAnywhere" (some .boolean) 3 66) {Z : State → Prop} {al : Bool} {hi : Nat} {ρ : Type} {r9 : ρ} {h3 : zH} {x1 : Nat} {K0 : Unit → Option ρ} {K1 : Unit → Option ρ} (hK0 : ∀ (u9 : Unit), K0 u9 = some r9 → zW X 2 Z 0 0 al hi h3 18 [] []) (hK1 : ∀ (u9 : Unit), K1 u9 = some r9 → zW X 2 Z 0 0 al hi h3 26 [] []) : ∀ (k : Nat) (x2 : Int32), LX3_hasRoomAnywhere_2 (xT X) h3 x1 K0 K1 k x2 = some r9 → zW X 2 Z 0 0 al hi h3 2 [(0, .ref x1), (1, .int x2)] [] := by
  intro k
  induction k with
  | zero =>
    intro x2 hf
    have hf : none = some r9 := hf
    cases hf
  | succ k ih =>
    intro x2 hf
    rw [LX3_hasRoomAnywhere_2.eq_2] at hf
    refine z_iload_n C dX3_hasRoomAnywhere_2 1 rfl rfl ?_
    refine z_aload_n C dX3_hasRoomAnywhere_3 0 rfl rfl ?_
    refine z_getI C fl_X3_62 dX3_hasRoomAnywhere_4 hf (fun x4 hf => ?_)
    refine z_icmp_ge (tgt := 26) C dX3_hasRoomAnywhere_7 (by decide) hf (fun hf => ?_) (fun hf => ?_)
    · refine z_sub [] rfl ?_
      exact hK1 _ hf
    · refine z_aload_n C dX3_hasRoomAnywhere_10 0 rfl rfl ?_
      refine z_iload_n C dX3_hasRoomAnywhere_11 1 rfl rfl ?_
      obtain ⟨x6, g5, hf⟩ := zbind hf
      refine z_callV (kc' := 0) (ks' := 0) C (MX3_columnHasRoom (xl X) (xD X) (xT X) (xlo X) al hi g5) (OX3_columnHasRoom g5) rfl cw_X3_90 yv_X3_columnHasRoom dX3_hasRoomAnywhere_12 rfl (by decide) ⟨rfl, rfl⟩ (Nat.le_of_ble_eq_true rfl) (st := []) rfl ?_
      refine z_if_eq (tgt := 20) C dX3_hasRoomAnywhere_15 (by decide) hf (fun hf => ?_) (fun hf => ?_)
      · refine z_iinc C dX3_hasRoomAnywhere_20 (k := 1) (d := 1) rfl (by decide) (by decide) (lv' := [(1, .int (x2 + 1)), (0, .ref x1)]) rfl ?_
        refine z_goto (tgt := 2) C dX3_hasRoomAnywhere_23 (by decide) ?_
        refine z_sub [1, 0] rfl ?_
        exact ih _ hf
      · refine z_sub [] rfl ?_
        exact hK0 _ hf
def FX3_hasRoomAnywhere (T : zT) (a0 : Nat) (h : zH) : Option Int32 := (zo h a0 3).bind fun _ => LX3_hasRoomAnywhere_2 T h a0 (fun (u9 : Unit) => some 1) (fun (u9 : Unit) => some 0) FUEL 0
set_option maxHeartbeats 4000000 in
set_option maxRecDepth 100000 in
theorem BX3_hasRoomAnywhere {X : zX} (C : zC X cX3_hasRoomAnywhere 2 RX3 "hasRoomAnywhere" (some .boolean) 3 66) {al : Bool} {hi : Nat} {h : zH} {a0 : Nat} {r9 : Int32} (hf : FX3_hasRoomAnywhere (xT X) a0 h = some r9) : zW X 2 (zZ X al (some (.int r9), hi, h)) 0 0 al hi h 0 [(0, .ref a0)] [] := by
  unfold FX3_hasRoomAnywhere at hf
  obtain ⟨_, _, hf⟩ := zbind hf
  refine z_iconst C (v := 0) dX3_hasRoomAnywhere_0 (by decide) ?_
  refine z_istore_n C dX3_hasRoomAnywhere_1 rfl (by decide) (lv' := [(1, .int 0), (0, .ref a0)]) rfl ?_
  refine z_sub [1, 0] rfl ?_
  refine LX3_hasRoomAnywhere_2_ok C ?_ ?_ FUEL _ hf
  · intro u9 hf
    refine z_iconst C (v := 1) dX3_hasRoomAnywhere_18 (by decide) ?_
    exact z_zreturn C dX3_hasRoomAnywhere_19 (Or.inr rfl) (by cases hf; rfl)
  · intro u9 hf
    refine z_iconst C (v := 0) dX3_hasRoomAnywhere_26 (by decide) ?_
    exact z_zreturn C dX3_hasRoomAnywhere_27 (Or.inl rfl) (by cases hf; rfl)
theorem MX3_hasRoomAnywhere (l : Launch) (D : va_G) (T : zT) (lo : Nat) (al : Bool) (hi : Nat) {h : zH} {a0 : Nat} {v9 : Int32} (hf : FX3_hasRoomAnywhere T a0 h = some v9) : zM l yX3_hasRoomAnywhere (.code yX3_hasRoomAnywhere cX3_hasRoomAnywhere 2 (some .boolean) :: TW) ({ frames := 3, cells := 0, slots := 0, locals := 66 } : Room) D T lo al [.ref a0] hi h (some (.int v9), hi, h) :=
  z_enter (own := RX3) (nm := "hasRoomAnywhere") (lv := [(0, .ref a0)]) (by decide +kernel) rfl rfl (Nat.le_of_ble_eq_true rfl) rfl (fun _ _ _ _ _ _ _ _ C => BX3_hasRoomAnywhere C hf)
theorem OX3_hasRoomAnywhere {T : zT} {h : zH} {a0 : Nat} {r9 : Int32} (hf : FX3_hasRoomAnywhere T a0 h = some r9) : ∃ fs, h a0 = some (.inr (3, fs)) := by
  obtain ⟨_, h1, _⟩ := zbind hf
  exact zo_obj h1
theorem dX6_placeOf_0 : decode cX6_placeOf 0 = .ok (.iconst 2, 1) := by decide +kernel
theorem dX6_placeOf_1 : decode cX6_placeOf 1 = .ok (.iload_n 0, 1) := by decide +kernel
theorem dX6_placeOf_2 : decode cX6_placeOf 2 = .ok (.iload_n 1, 1) := by decide +kernel
theorem dX6_placeOf_3 : decode cX6_placeOf 3 = .ok (.invokestatic 204, 3) := by decide +kernel
theorem dX6_placeOf_6 : decode cX6_placeOf 6 = .ok (.imul, 1) := by decide +kernel
theorem dX6_placeOf_7 : decode cX6_placeOf 7 = .ok (.iload_n 2, 1) := by decide +kernel
theorem dX6_placeOf_8 : decode cX6_placeOf 8 = .ok (.iadd, 1) := by decide +kernel
theorem dX6_placeOf_9 : decode cX6_placeOf 9 = .ok (.ireturn, 1) := by decide +kernel
def FX6_placeOf (T : zT) (p0 : Int32) (p1 : Int32) (p2 : Int32) (h : zH) : Option Int32 := (FX6_cellOf T p0 p1 h).bind fun x2 => some ((2 * x2) + p2)
set_option maxHeartbeats 4000000 in
set_option maxRecDepth 100000 in
theorem BX6_placeOf {X : zX} (C : zC X cX6_placeOf 3 RX6 "placeOf" (some .int) 1 21) {al : Bool} {hi : Nat} {h : zH} {p0 : Int32} {p1 : Int32} {p2 : Int32} {r9 : Int32} (hf : FX6_placeOf (xT X) p0 p1 p2 h = some r9) : zW X 3 (zZ X al (some (.int r9), hi, h)) 0 0 al hi h 0 [(0, .int p0), (1, .int p1), (2, .int p2)] [] := by
  unfold FX6_placeOf at hf
  refine z_iconst C (v := 2) dX6_placeOf_0 (by decide) ?_
  refine z_iload_n C dX6_placeOf_1 0 rfl rfl ?_
  refine z_iload_n C dX6_placeOf_2 1 rfl rfl ?_
  obtain ⟨x2, g1, hf⟩ := zbind hf
  refine z_callS (kc' := 0) (ks' := 0) C (MX6_cellOf (xl X) (xD X) (xT X) (xlo X) al hi g1) cw_X6_204 ys_X6_cellOf dX6_placeOf_3 rfl (by decide) ⟨rfl, rfl⟩ (Nat.le_of_ble_eq_true rfl) (st := [.int 2]) rfl ?_
  refine z_imul C dX6_placeOf_6 ?_
  refine z_iload_n C dX6_placeOf_7 2 rfl rfl ?_
  refine z_iadd C dX6_placeOf_8 ?_
  exact z_ireturn C dX6_placeOf_9 (by cases hf; rfl)
theorem MX6_placeOf (l : Launch) (D : va_G) (T : zT) (lo : Nat) (al : Bool) (hi : Nat) {h : zH} {p0 : Int32} {p1 : Int32} {p2 : Int32} {v9 : Int32} (hf : FX6_placeOf T p0 p1 p2 h = some v9) : zM l yX6_placeOf (.code yX6_placeOf cX6_placeOf 3 (some .int) :: TW) ({ frames := 1, cells := 0, slots := 0, locals := 21 } : Room) D T lo al [.int p0, .int p1, .int p2] hi h (some (.int v9), hi, h) :=
  z_enter (own := RX6) (nm := "placeOf") (lv := [(0, .int p0), (1, .int p1), (2, .int p2)]) (by decide +kernel) rfl rfl (Nat.le_of_ble_eq_true rfl) rfl (fun _ _ _ _ _ _ _ _ C => BX6_placeOf C hf)
theorem dX3_putMark_0 : decode cX3_putMark 0 = .ok (.aload_n 0, 1) := by decide +kernel
theorem dX3_putMark_1 : decode cX3_putMark 1 = .ok (.getfield 29, 3) := by decide +kernel
theorem dX3_putMark_4 : decode cX3_putMark 4 = .ok (.iload_n 1, 1) := by decide +kernel
theorem dX3_putMark_5 : decode cX3_putMark 5 = .ok (.iload_n 2, 1) := by decide +kernel
theorem dX3_putMark_6 : decode cX3_putMark 6 = .ok (.invokevirtual 72, 3) := by decide +kernel
theorem dX3_putMark_9 : decode cX3_putMark 9 = .ok (.aload_n 0, 1) := by decide +kernel
theorem dX3_putMark_10 : decode cX3_putMark 10 = .ok (.getfield 32, 3) := by decide +kernel
theorem dX3_putMark_13 : decode cX3_putMark 13 = .ok (.iload_n 1, 1) := by decide +kernel
theorem dX3_putMark_14 : decode cX3_putMark 14 = .ok (.iload_n 3, 1) := by decide +kernel
theorem dX3_putMark_15 : decode cX3_putMark 15 = .ok (.invokevirtual 72, 3) := by decide +kernel
theorem dX3_putMark_18 : decode cX3_putMark 18 = .ok (.aload_n 0, 1) := by decide +kernel
theorem dX3_putMark_19 : decode cX3_putMark 19 = .ok (.getfield 35, 3) := by decide +kernel
theorem dX3_putMark_22 : decode cX3_putMark 22 = .ok (.iload_n 1, 1) := by decide +kernel
theorem dX3_putMark_23 : decode cX3_putMark 23 = .ok (.iload 4, 2) := by decide +kernel
theorem dX3_putMark_25 : decode cX3_putMark 25 = .ok (.invokevirtual 72, 3) := by decide +kernel
theorem dX3_putMark_28 : decode cX3_putMark 28 = .ok (.aload_n 0, 1) := by decide +kernel
theorem dX3_putMark_29 : decode cX3_putMark 29 = .ok (.getfield 38, 3) := by decide +kernel
theorem dX3_putMark_32 : decode cX3_putMark 32 = .ok (.iload_n 1, 1) := by decide +kernel
theorem dX3_putMark_33 : decode cX3_putMark 33 = .ok (.iload 5, 2) := by decide +kernel
theorem dX3_putMark_35 : decode cX3_putMark 35 = .ok (.invokevirtual 72, 3) := by decide +kernel
theorem dX3_putMark_38 : decode cX3_putMark 38 = .ok (.return_, 1) := by decide +kernel
def FX3_putMark (T : zT) (a0 : Nat) (p0 : Int32) (p1 : Int32) (p2 : Int32) (p3 : Int32) (p4 : Int32) (h : zH) : Option zH := (zo h a0 3).bind fun _ => (zgr h a0 3 8).bind fun x1 => (FX1_put T x1 p0 p1 h).bind fun h3 => (zgr h3 a0 3 9).bind fun x4 => (FX1_put T x4 p0 p2 h3).bind fun h6 => (zgr h6 a0 3 10).bind fun x7 => (FX1_put T x7 p0 p3 h6).bind fun h9 => (zgr h9 a0 3 11).bind fun x10 => (FX1_put T x10 p0 p4 h9).bind fun h12 => some h12
set_option maxHeartbeats 4000000 in
set_option maxRecDepth 100000 in
theorem BX3_putMark {X : zX} (C : zC X cX3_putMark 6 RX3 "putMark" none 1 22) {al : Bool} {hi : Nat} {h : zH} {a0 : Nat} {p0 : Int32} {p1 : Int32} {p2 : Int32} {p3 : Int32} {p4 : Int32} {r9 : zH} (hf : FX3_putMark (xT X) a0 p0 p1 p2 p3 p4 h = some r9) : zW X 6 (zZ X al (none, hi, r9)) 0 0 al hi h 0 [(0, .ref a0), (1, .int p0), (2, .int p1), (3, .int p2), (4, .int p3), (5, .int p4)] [] := by
  unfold FX3_putMark at hf
  obtain ⟨_, _, hf⟩ := zbind hf
  refine z_aload_n C dX3_putMark_0 0 rfl rfl ?_
  refine z_getR C fl_X3_29 dX3_putMark_1 hf (fun x1 hf => ?_)
  refine z_iload_n C dX3_putMark_4 1 rfl rfl ?_
  refine z_iload_n C dX3_putMark_5 2 rfl rfl ?_
  obtain ⟨h3, g2, hf⟩ := zbind hf
  refine z_callV (kc' := 0) (ks' := 0) C (MX1_put (xl X) (xD X) (xT X) (xlo X) al hi g2) (OX1_put g2) rfl cw_X3_72 yv_X1_put dX3_putMark_6 rfl (by decide) ⟨rfl, rfl⟩ (Nat.le_of_ble_eq_true rfl) (st := []) rfl ?_
  refine z_aload_n C dX3_putMark_9 0 rfl rfl ?_
  refine z_getR C fl_X3_32 dX3_putMark_10 hf (fun x4 hf => ?_)
  refine z_iload_n C dX3_putMark_13 1 rfl rfl ?_
  refine z_iload_n C dX3_putMark_14 3 rfl rfl ?_
  obtain ⟨h6, g5, hf⟩ := zbind hf
  refine z_callV (kc' := 0) (ks' := 0) C (MX1_put (xl X) (xD X) (xT X) (xlo X) al hi g5) (OX1_put g5) rfl cw_X3_72 yv_X1_put dX3_putMark_15 rfl (by decide) ⟨rfl, rfl⟩ (Nat.le_of_ble_eq_true rfl) (st := []) rfl ?_
  refine z_aload_n C dX3_putMark_18 0 rfl rfl ?_
  refine z_getR C fl_X3_35 dX3_putMark_19 hf (fun x7 hf => ?_)
  refine z_iload_n C dX3_putMark_22 1 rfl rfl ?_
  refine z_iload C dX3_putMark_23 4 rfl ?_
  obtain ⟨h9, g8, hf⟩ := zbind hf
  refine z_callV (kc' := 0) (ks' := 0) C (MX1_put (xl X) (xD X) (xT X) (xlo X) al hi g8) (OX1_put g8) rfl cw_X3_72 yv_X1_put dX3_putMark_25 rfl (by decide) ⟨rfl, rfl⟩ (Nat.le_of_ble_eq_true rfl) (st := []) rfl ?_
  refine z_aload_n C dX3_putMark_28 0 rfl rfl ?_
  refine z_getR C fl_X3_38 dX3_putMark_29 hf (fun x10 hf => ?_)
  refine z_iload_n C dX3_putMark_32 1 rfl rfl ?_
  refine z_iload C dX3_putMark_33 5 rfl ?_
  obtain ⟨h12, g11, hf⟩ := zbind hf
  refine z_callV (kc' := 0) (ks' := 0) C (MX1_put (xl X) (xD X) (xT X) (xlo X) al hi g11) (OX1_put g11) rfl cw_X3_72 yv_X1_put dX3_putMark_35 rfl (by decide) ⟨rfl, rfl⟩ (Nat.le_of_ble_eq_true rfl) (st := []) rfl ?_
  exact z_vreturn C dX3_putMark_38 (by cases hf; rfl)
theorem MX3_putMark (l : Launch) (D : va_G) (T : zT) (lo : Nat) (al : Bool) (hi : Nat) {h : zH} {a0 : Nat} {p0 : Int32} {p1 : Int32} {p2 : Int32} {p3 : Int32} {p4 : Int32} {h9 : zH} (hf : FX3_putMark T a0 p0 p1 p2 p3 p4 h = some h9) : zM l yX3_putMark (.code yX3_putMark cX3_putMark 6 none :: TW) ({ frames := 1, cells := 0, slots := 0, locals := 22 } : Room) D T lo al [.ref a0, .int p0, .int p1, .int p2, .int p3, .int p4] hi h (none, hi, h9) :=
  z_enter (own := RX3) (nm := "putMark") (lv := [(0, .ref a0), (1, .int p0), (2, .int p1), (3, .int p2), (4, .int p3), (5, .int p4)]) (by decide +kernel) rfl rfl (Nat.le_of_ble_eq_true rfl) rfl (fun _ _ _ _ _ _ _ _ C => BX3_putMark C hf)
theorem OX3_putMark {T : zT} {h : zH} {a0 : Nat} {p0 : Int32} {p1 : Int32} {p2 : Int32} {p3 : Int32} {p4 : Int32} {r9 : zH} (hf : FX3_putMark T a0 p0 p1 p2 p3 p4 h = some r9) : ∃ fs, h a0 = some (.inr (3, fs)) := by
  obtain ⟨_, h1, _⟩ := zbind hf
  exact zo_obj h1
theorem dX3_addMark_0 : decode cX3_addMark 0 = .ok (.aload_n 0, 1) := by decide +kernel
theorem dX3_addMark_1 : decode cX3_addMark 1 = .ok (.iload_n 1, 1) := by decide +kernel
theorem dX3_addMark_2 : decode cX3_addMark 2 = .ok (.iload_n 2, 1) := by decide +kernel
theorem dX3_addMark_3 : decode cX3_addMark 3 = .ok (.invokevirtual 87, 3) := by decide +kernel
theorem dX3_addMark_6 : decode cX3_addMark 6 = .ok (.ifCond .eq 45, 3) := by decide +kernel
theorem dX3_addMark_9 : decode cX3_addMark 9 = .ok (.aload_n 0, 1) := by decide +kernel
theorem dX3_addMark_10 : decode cX3_addMark 10 = .ok (.iload_n 1, 1) := by decide +kernel
theorem dX3_addMark_11 : decode cX3_addMark 11 = .ok (.iload_n 2, 1) := by decide +kernel
theorem dX3_addMark_12 : decode cX3_addMark 12 = .ok (.invokevirtual 94, 3) := by decide +kernel
theorem dX3_addMark_15 : decode cX3_addMark 15 = .ok (.istore 6, 2) := by decide +kernel
theorem dX3_addMark_17 : decode cX3_addMark 17 = .ok (.aload_n 0, 1) := by decide +kernel
theorem dX3_addMark_18 : decode cX3_addMark 18 = .ok (.getfield 26, 3) := by decide +kernel
theorem dX3_addMark_21 : decode cX3_addMark 21 = .ok (.iload_n 1, 1) := by decide +kernel
theorem dX3_addMark_22 : decode cX3_addMark 22 = .ok (.iload_n 2, 1) := by decide +kernel
theorem dX3_addMark_23 : decode cX3_addMark 23 = .ok (.invokestatic 79, 3) := by decide +kernel
theorem dX3_addMark_26 : decode cX3_addMark 26 = .ok (.iload 6, 2) := by decide +kernel
theorem dX3_addMark_28 : decode cX3_addMark 28 = .ok (.iconst 1, 1) := by decide +kernel
theorem dX3_addMark_29 : decode cX3_addMark 29 = .ok (.iadd, 1) := by decide +kernel
theorem dX3_addMark_30 : decode cX3_addMark 30 = .ok (.invokevirtual 72, 3) := by decide +kernel
theorem dX3_addMark_33 : decode cX3_addMark 33 = .ok (.aload_n 0, 1) := by decide +kernel
theorem dX3_addMark_34 : decode cX3_addMark 34 = .ok (.iload_n 1, 1) := by decide +kernel
theorem dX3_addMark_35 : decode cX3_addMark 35 = .ok (.iload_n 2, 1) := by decide +kernel
theorem dX3_addMark_36 : decode cX3_addMark 36 = .ok (.iload 6, 2) := by decide +kernel
theorem dX3_addMark_38 : decode cX3_addMark 38 = .ok (.invokestatic 97, 3) := by decide +kernel
theorem dX3_addMark_41 : decode cX3_addMark 41 = .ok (.iload_n 3, 1) := by decide +kernel
theorem dX3_addMark_42 : decode cX3_addMark 42 = .ok (.iload 4, 2) := by decide +kernel
theorem dX3_addMark_44 : decode cX3_addMark 44 = .ok (.iload 5, 2) := by decide +kernel
theorem dX3_addMark_46 : decode cX3_addMark 46 = .ok (.bipush (-9), 2) := by decide +kernel
theorem dX3_addMark_48 : decode cX3_addMark 48 = .ok (.invokevirtual 101, 3) := by decide +kernel
theorem dX3_addMark_51 : decode cX3_addMark 51 = .ok (.return_, 1) := by decide +kernel
def FX3_addMark (T : zT) (a0 : Nat) (p0 : Int32) (p1 : Int32) (p2 : Int32) (p3 : Int32) (p4 : Int32) (h : zH) : Option zH := (zo h a0 3).bind fun _ => zJ (fun (h1 : zH) => some h1) (fun J2 => (FX3_hasRoom T a0 p0 p1 h).bind fun x4 => if x4 = 0 then (J2 h) else ((FX3_marksIn T a0 p0 p1 h).bind fun x6 => (zgr h a0 3 7).bind fun x7 => (FX6_cellOf T p0 p1 h).bind fun x9 => (FX1_put T x7 x9 (x6 + 1) h).bind fun h11 => (FX6_placeOf T p0 p1 x6 h11).bind fun x13 => (FX3_putMark T a0 x13 p2 p3 p4 (-9 : Int32) h11).bind fun h15 => J2 h15))
set_option maxHeartbeats 4000000 in
set_option maxRecDepth 100000 in
theorem BX3_addMark {X : zX} (C : zC X cX3_addMark 7 RX3 "addMark" none 2 47) {al : Bool} {hi : Nat} {h : zH} {a0 : Nat} {p0 : Int32} {p1 : Int32} {p2 : Int32} {p3 : Int32} {p4 : Int32} {r9 : zH} (hf : FX3_addMark (xT X) a0 p0 p1 p2 p3 p4 h = some r9) : zW X 7 (zZ X al (none, hi, r9)) 0 0 al hi h 0 [(0, .ref a0), (1, .int p0), (2, .int p1), (3, .int p2), (4, .int p3), (5, .int p4)] [] := by
  unfold FX3_addMark at hf
  obtain ⟨_, _, hf⟩ := zbind hf
  refine z_join (P := fun J => ∀ (h1 : zH), J h1 = some r9 → zW X 7 (zZ X al (none, hi, r9)) 0 0 al hi h1 51 [] []) hf ?_ ?_
  · intro h1 hf
    exact z_vreturn C dX3_addMark_51 (by cases hf; rfl)
  · intro J2 kJ2 hf
    refine z_aload_n C dX3_addMark_0 0 rfl rfl ?_
    refine z_iload_n C dX3_addMark_1 1 rfl rfl ?_
    refine z_iload_n C dX3_addMark_2 2 rfl rfl ?_
    obtain ⟨x4, g3, hf⟩ := zbind hf
    refine z_callV (kc' := 0) (ks' := 0) C (MX3_hasRoom (xl X) (xD X) (xT X) (xlo X) al hi g3) (OX3_hasRoom g3) rfl cw_X3_87 yv_X3_hasRoom dX3_addMark_3 rfl (by decide) ⟨rfl, rfl⟩ (Nat.le_of_ble_eq_true rfl) (st := []) rfl ?_
    refine z_if_eq (tgt := 51) C dX3_addMark_6 (by decide) hf (fun hf => ?_) (fun hf => ?_)
    · refine z_sub [] rfl ?_
      exact kJ2 _ hf
    · refine z_aload_n C dX3_addMark_9 0 rfl rfl ?_
      refine z_iload_n C dX3_addMark_10 1 rfl rfl ?_
      refine z_iload_n C dX3_addMark_11 2 rfl rfl ?_
      obtain ⟨x6, g5, hf⟩ := zbind hf
      refine z_callV (kc' := 0) (ks' := 0) C (MX3_marksIn (xl X) (xD X) (xT X) (xlo X) al hi g5) (OX3_marksIn g5) rfl cw_X3_94 yv_X3_marksIn dX3_addMark_12 rfl (by decide) ⟨rfl, rfl⟩ (Nat.le_of_ble_eq_true rfl) (st := []) rfl ?_
      refine z_istore C dX3_addMark_15 (by decide) (lv' := [(6, .int x6), (0, .ref a0), (1, .int p0), (2, .int p1), (3, .int p2), (4, .int p3), (5, .int p4)]) rfl ?_
      refine z_aload_n C dX3_addMark_17 1 rfl rfl ?_
      refine z_getR C fl_X3_26 dX3_addMark_18 hf (fun x7 hf => ?_)
      refine z_iload_n C dX3_addMark_21 2 rfl rfl ?_
      refine z_iload_n C dX3_addMark_22 3 rfl rfl ?_
      obtain ⟨x9, g8, hf⟩ := zbind hf
      refine z_callSN (kc' := 0) (ks' := 0) C (MX6_cellOf (xl X) (xD X) (xT X) (xlo X) al hi g8) cw_X3_79 nw_X3_79 mw_393 mw_26 ys_X6_cellOf dX3_addMark_23 rfl (by decide) ⟨rfl, rfl⟩ (Nat.le_of_ble_eq_true rfl) (st := [.ref x7]) rfl ?_
      refine z_iload C dX3_addMark_26 0 rfl ?_
      refine z_iconst C (v := 1) dX3_addMark_28 (by decide) ?_
      refine z_iadd C dX3_addMark_29 ?_
      obtain ⟨h11, g10, hf⟩ := zbind hf
      refine z_callV (kc' := 0) (ks' := 0) C (MX1_put (xl X) (xD X) (xT X) (xlo X) al hi g10) (OX1_put g10) rfl cw_X3_72 yv_X1_put dX3_addMark_30 rfl (by decide) ⟨rfl, rfl⟩ (Nat.le_of_ble_eq_true rfl) (st := []) rfl ?_
      refine z_aload_n C dX3_addMark_33 1 rfl rfl ?_
      refine z_iload_n C dX3_addMark_34 2 rfl rfl ?_
      refine z_iload_n C dX3_addMark_35 3 rfl rfl ?_
      refine z_iload C dX3_addMark_36 0 rfl ?_
      obtain ⟨x13, g12, hf⟩ := zbind hf
      refine z_callSN (kc' := 0) (ks' := 0) C (MX6_placeOf (xl X) (xD X) (xT X) (xlo X) al hi g12) cw_X3_97 nw_X3_97 mw_408 mw_26 ys_X6_placeOf dX3_addMark_38 rfl (by decide) ⟨rfl, rfl⟩ (Nat.le_of_ble_eq_true rfl) (st := [.ref a0]) rfl ?_
      refine z_iload_n C dX3_addMark_41 4 rfl rfl ?_
      refine z_iload C dX3_addMark_42 5 rfl ?_
      refine z_iload C dX3_addMark_44 6 rfl ?_
      refine z_bipush C (v := (-9 : Int32)) dX3_addMark_46 (by decide) ?_
      obtain ⟨h15, g14, hf⟩ := zbind hf
      refine z_callV (kc' := 0) (ks' := 0) C (MX3_putMark (xl X) (xD X) (xT X) (xlo X) al hi g14) (OX3_putMark g14) rfl cw_X3_101 yv_X3_putMark dX3_addMark_48 rfl (by decide) ⟨rfl, rfl⟩ (Nat.le_of_ble_eq_true rfl) (st := []) rfl ?_
      refine z_sub [] rfl ?_
      exact kJ2 _ hf
theorem MX3_addMark (l : Launch) (D : va_G) (T : zT) (lo : Nat) (al : Bool) (hi : Nat) {h : zH} {a0 : Nat} {p0 : Int32} {p1 : Int32} {p2 : Int32} {p3 : Int32} {p4 : Int32} {h9 : zH} (hf : FX3_addMark T a0 p0 p1 p2 p3 p4 h = some h9) : zM l yX3_addMark (.code yX3_addMark cX3_addMark 7 none :: TW) ({ frames := 2, cells := 0, slots := 0, locals := 47 } : Room) D T lo al [.ref a0, .int p0, .int p1, .int p2, .int p3, .int p4] hi h (none, hi, h9) :=
  z_enter (own := RX3) (nm := "addMark") (lv := [(0, .ref a0), (1, .int p0), (2, .int p1), (3, .int p2), (4, .int p3), (5, .int p4)]) (by decide +kernel) rfl rfl (Nat.le_of_ble_eq_true rfl) rfl (fun _ _ _ _ _ _ _ _ C => BX3_addMark C hf)
theorem OX3_addMark {T : zT} {h : zH} {a0 : Nat} {p0 : Int32} {p1 : Int32} {p2 : Int32} {p3 : Int32} {p4 : Int32} {r9 : zH} (hf : FX3_addMark T a0 p0 p1 p2 p3 p4 h = some r9) : ∃ fs, h a0 = some (.inr (3, fs)) := by
  obtain ⟨_, h1, _⟩ := zbind hf
  exact zo_obj h1
theorem dX3_removeMark_0 : decode cX3_removeMark 0 = .ok (.aload_n 0, 1) := by decide +kernel
theorem dX3_removeMark_1 : decode cX3_removeMark 1 = .ok (.iload_n 1, 1) := by decide +kernel
theorem dX3_removeMark_2 : decode cX3_removeMark 2 = .ok (.iload_n 2, 1) := by decide +kernel
theorem dX3_removeMark_3 : decode cX3_removeMark 3 = .ok (.iload_n 3, 1) := by decide +kernel
theorem dX3_removeMark_4 : decode cX3_removeMark 4 = .ok (.invokevirtual 105, 3) := by decide +kernel
theorem dX3_removeMark_7 : decode cX3_removeMark 7 = .ok (.ifCond .eq 81, 3) := by decide +kernel
theorem dX3_removeMark_10 : decode cX3_removeMark 10 = .ok (.iload_n 3, 1) := by decide +kernel
theorem dX3_removeMark_11 : decode cX3_removeMark 11 = .ok (.ifCond .ne 57, 3) := by decide +kernel
theorem dX3_removeMark_14 : decode cX3_removeMark 14 = .ok (.iload_n 1, 1) := by decide +kernel
theorem dX3_removeMark_15 : decode cX3_removeMark 15 = .ok (.iload_n 2, 1) := by decide +kernel
theorem dX3_removeMark_16 : decode cX3_removeMark 16 = .ok (.iconst 1, 1) := by decide +kernel
theorem dX3_removeMark_17 : decode cX3_removeMark 17 = .ok (.invokestatic 97, 3) := by decide +kernel
theorem dX3_removeMark_20 : decode cX3_removeMark 20 = .ok (.istore 4, 2) := by decide +kernel
theorem dX3_removeMark_22 : decode cX3_removeMark 22 = .ok (.aload_n 0, 1) := by decide +kernel
theorem dX3_removeMark_23 : decode cX3_removeMark 23 = .ok (.iload_n 1, 1) := by decide +kernel
theorem dX3_removeMark_24 : decode cX3_removeMark 24 = .ok (.iload_n 2, 1) := by decide +kernel
theorem dX3_removeMark_25 : decode cX3_removeMark 25 = .ok (.iconst 0, 1) := by decide +kernel
theorem dX3_removeMark_26 : decode cX3_removeMark 26 = .ok (.invokestatic 97, 3) := by decide +kernel
theorem dX3_removeMark_29 : decode cX3_removeMark 29 = .ok (.aload_n 0, 1) := by decide +kernel
theorem dX3_removeMark_30 : decode cX3_removeMark 30 = .ok (.getfield 29, 3) := by decide +kernel
theorem dX3_removeMark_33 : decode cX3_removeMark 33 = .ok (.iload 4, 2) := by decide +kernel
theorem dX3_removeMark_35 : decode cX3_removeMark 35 = .ok (.invokevirtual 83, 3) := by decide +kernel
theorem dX3_removeMark_38 : decode cX3_removeMark 38 = .ok (.aload_n 0, 1) := by decide +kernel
theorem dX3_removeMark_39 : decode cX3_removeMark 39 = .ok (.getfield 32, 3) := by decide +kernel
theorem dX3_removeMark_42 : decode cX3_removeMark 42 = .ok (.iload 4, 2) := by decide +kernel
theorem dX3_removeMark_44 : decode cX3_removeMark 44 = .ok (.invokevirtual 83, 3) := by decide +kernel
theorem dX3_removeMark_47 : decode cX3_removeMark 47 = .ok (.aload_n 0, 1) := by decide +kernel
theorem dX3_removeMark_48 : decode cX3_removeMark 48 = .ok (.getfield 35, 3) := by decide +kernel
theorem dX3_removeMark_51 : decode cX3_removeMark 51 = .ok (.iload 4, 2) := by decide +kernel
theorem dX3_removeMark_53 : decode cX3_removeMark 53 = .ok (.invokevirtual 83, 3) := by decide +kernel
theorem dX3_removeMark_56 : decode cX3_removeMark 56 = .ok (.aload_n 0, 1) := by decide +kernel
theorem dX3_removeMark_57 : decode cX3_removeMark 57 = .ok (.getfield 38, 3) := by decide +kernel
theorem dX3_removeMark_60 : decode cX3_removeMark 60 = .ok (.iload 4, 2) := by decide +kernel
theorem dX3_removeMark_62 : decode cX3_removeMark 62 = .ok (.invokevirtual 83, 3) := by decide +kernel
theorem dX3_removeMark_65 : decode cX3_removeMark 65 = .ok (.invokevirtual 101, 3) := by decide +kernel
theorem dX3_removeMark_68 : decode cX3_removeMark 68 = .ok (.aload_n 0, 1) := by decide +kernel
theorem dX3_removeMark_69 : decode cX3_removeMark 69 = .ok (.getfield 26, 3) := by decide +kernel
theorem dX3_removeMark_72 : decode cX3_removeMark 72 = .ok (.iload_n 1, 1) := by decide +kernel
theorem dX3_removeMark_73 : decode cX3_removeMark 73 = .ok (.iload_n 2, 1) := by decide +kernel
theorem dX3_removeMark_74 : decode cX3_removeMark 74 = .ok (.invokestatic 79, 3) := by decide +kernel
theorem dX3_removeMark_77 : decode cX3_removeMark 77 = .ok (.aload_n 0, 1) := by decide +kernel
theorem dX3_removeMark_78 : decode cX3_removeMark 78 = .ok (.iload_n 1, 1) := by decide +kernel
theorem dX3_removeMark_79 : decode cX3_removeMark 79 = .ok (.iload_n 2, 1) := by decide +kernel
theorem dX3_removeMark_80 : decode cX3_removeMark 80 = .ok (.invokevirtual 94, 3) := by decide +kernel
theorem dX3_removeMark_83 : decode cX3_removeMark 83 = .ok (.iconst 1, 1) := by decide +kernel
theorem dX3_removeMark_84 : decode cX3_removeMark 84 = .ok (.isub, 1) := by decide +kernel
theorem dX3_removeMark_85 : decode cX3_removeMark 85 = .ok (.invokevirtual 72, 3) := by decide +kernel
theorem dX3_removeMark_88 : decode cX3_removeMark 88 = .ok (.return_, 1) := by decide +kernel
def FX3_removeMark (T : zT) (a0 : Nat) (p0 : Int32) (p1 : Int32) (p2 : Int32) (h : zH) : Option zH := (zo h a0 3).bind fun _ => zJ (fun (h1 : zH) => some h1) (fun J2 => (FX3_hasMark T a0 p0 p1 p2 h).bind fun x4 => if x4 = 0 then (J2 h) else (zJ (fun (h5 : zH) => (zgr h5 a0 3 7).bind fun x7 => (FX6_cellOf T p0 p1 h5).bind fun x9 => (FX3_marksIn T a0 p0 p1 h5).bind fun x11 => (FX1_put T x7 x9 (x11 - 1) h5).bind fun h13 => J2 h13) (fun J6 => if p2 = 0 then ((FX6_placeOf T p0 p1 1 h).bind fun x15 => (FX6_placeOf T p0 p1 0 h).bind fun x17 => (zgr h a0 3 8).bind fun x18 => (FX1_at T x18 x15 h).bind fun x20 => (zgr h a0 3 9).bind fun x21 => (FX1_at T x21 x15 h).bind fun x23 => (zgr h a0 3 10).bind fun x24 => (FX1_at T x24 x15 h).bind fun x26 => (zgr h a0 3 11).bind fun x27 => (FX1_at T x27 x15 h).bind fun x29 => (FX3_putMark T a0 x17 x20 x23 x26 x29 h).bind fun h31 => J6 h31) else (J6 h))))
set_option maxHeartbeats 4000000 in
set_option maxRecDepth 100000 in
theorem BX3_removeMark {X : zX} (C : zC X cX3_removeMark 5 RX3 "removeMark" none 2 47) {al : Bool} {hi : Nat} {h : zH} {a0 : Nat} {p0 : Int32} {p1 : Int32} {p2 : Int32} {r9 : zH} (hf : FX3_removeMark (xT X) a0 p0 p1 p2 h = some r9) : zW X 5 (zZ X al (none, hi, r9)) 0 0 al hi h 0 [(0, .ref a0), (1, .int p0), (2, .int p1), (3, .int p2)] [] := by
  unfold FX3_removeMark at hf
  obtain ⟨_, _, hf⟩ := zbind hf
  refine z_join (P := fun J => ∀ (h1 : zH), J h1 = some r9 → zW X 5 (zZ X al (none, hi, r9)) 0 0 al hi h1 88 [] []) hf ?_ ?_
  · intro h1 hf
    exact z_vreturn C dX3_removeMark_88 (by cases hf; rfl)
  · intro J2 kJ2 hf
    refine z_aload_n C dX3_removeMark_0 0 rfl rfl ?_
    refine z_iload_n C dX3_removeMark_1 1 rfl rfl ?_
    refine z_iload_n C dX3_removeMark_2 2 rfl rfl ?_
    refine z_iload_n C dX3_removeMark_3 3 rfl rfl ?_
    obtain ⟨x4, g3, hf⟩ := zbind hf
    refine z_callV (kc' := 0) (ks' := 0) C (MX3_hasMark (xl X) (xD X) (xT X) (xlo X) al hi g3) (OX3_hasMark g3) rfl cw_X3_105 yv_X3_hasMark dX3_removeMark_4 rfl (by decide) ⟨rfl, rfl⟩ (Nat.le_of_ble_eq_true rfl) (st := []) rfl ?_
    refine z_if_eq (tgt := 88) C dX3_removeMark_7 (by decide) hf (fun hf => ?_) (fun hf => ?_)
    · refine z_sub [] rfl ?_
      exact kJ2 _ hf
    · refine z_join (P := fun J => ∀ (h5 : zH), J h5 = some r9 → zW X 5 (zZ X al (none, hi, r9)) 0 0 al hi h5 68 [(0, .ref a0), (1, .int p0), (2, .int p1)] []) hf ?_ ?_
      · intro h5 hf
        refine z_aload_n C dX3_removeMark_68 0 rfl rfl ?_
        refine z_getR C fl_X3_26 dX3_removeMark_69 hf (fun x7 hf => ?_)
        refine z_iload_n C dX3_removeMark_72 1 rfl rfl ?_
        refine z_iload_n C dX3_removeMark_73 2 rfl rfl ?_
        obtain ⟨x9, g8, hf⟩ := zbind hf
        refine z_callSN (kc' := 0) (ks' := 0) C (MX6_cellOf (xl X) (xD X) (xT X) (xlo X) al hi g8) cw_X3_79 nw_X3_79 mw_393 mw_26 ys_X6_cellOf dX3_removeMark_74 rfl (by decide) ⟨rfl, rfl⟩ (Nat.le_of_ble_eq_true rfl) (st := [.ref x7]) rfl ?_
        refine z_aload_n C dX3_removeMark_77 0 rfl rfl ?_
        refine z_iload_n C dX3_removeMark_78 1 rfl rfl ?_
        refine z_iload_n C dX3_removeMark_79 2 rfl rfl ?_
        obtain ⟨x11, g10, hf⟩ := zbind hf
        refine z_callV (kc' := 0) (ks' := 0) C (MX3_marksIn (xl X) (xD X) (xT X) (xlo X) al hi g10) (OX3_marksIn g10) rfl cw_X3_94 yv_X3_marksIn dX3_removeMark_80 rfl (by decide) ⟨rfl, rfl⟩ (Nat.le_of_ble_eq_true rfl) (st := [.int x9, .ref x7]) rfl ?_
        refine z_iconst C (v := 1) dX3_removeMark_83 (by decide) ?_
        refine z_isub C dX3_removeMark_84 ?_
        obtain ⟨h13, g12, hf⟩ := zbind hf
        refine z_callV (kc' := 0) (ks' := 0) C (MX1_put (xl X) (xD X) (xT X) (xlo X) al hi g12) (OX1_put g12) rfl cw_X3_72 yv_X1_put dX3_removeMark_85 rfl (by decide) ⟨rfl, rfl⟩ (Nat.le_of_ble_eq_true rfl) (st := []) rfl ?_
        refine z_sub [] rfl ?_
        exact kJ2 _ hf
      · intro J6 kJ6 hf
        refine z_iload_n C dX3_removeMark_10 3 rfl rfl ?_
        refine z_if_ne (tgt := 68) C dX3_removeMark_11 (by decide) hf (fun hf => ?_) (fun hf => ?_)
        · refine z_sub [0, 1, 2] rfl ?_
          exact kJ6 _ hf
        · refine z_iload_n C dX3_removeMark_14 1 rfl rfl ?_
          refine z_iload_n C dX3_removeMark_15 2 rfl rfl ?_
          refine z_iconst C (v := 1) dX3_removeMark_16 (by decide) ?_
          obtain ⟨x15, g14, hf⟩ := zbind hf
          refine z_callSN (kc' := 0) (ks' := 0) C (MX6_placeOf (xl X) (xD X) (xT X) (xlo X) al hi g14) cw_X3_97 nw_X3_97 mw_408 mw_26 ys_X6_placeOf dX3_removeMark_17 rfl (by decide) ⟨rfl, rfl⟩ (Nat.le_of_ble_eq_true rfl) (st := []) rfl ?_
          refine z_istore C dX3_removeMark_20 (by decide) (lv' := [(4, .int x15), (0, .ref a0), (1, .int p0), (2, .int p1), (3, .int p2)]) rfl ?_
          refine z_aload_n C dX3_removeMark_22 1 rfl rfl ?_
          refine z_iload_n C dX3_removeMark_23 2 rfl rfl ?_
          refine z_iload_n C dX3_removeMark_24 3 rfl rfl ?_
          refine z_iconst C (v := 0) dX3_removeMark_25 (by decide) ?_
          obtain ⟨x17, g16, hf⟩ := zbind hf
          refine z_callSN (kc' := 0) (ks' := 0) C (MX6_placeOf (xl X) (xD X) (xT X) (xlo X) al hi g16) cw_X3_97 nw_X3_97 mw_408 mw_26 ys_X6_placeOf dX3_removeMark_26 rfl (by decide) ⟨rfl, rfl⟩ (Nat.le_of_ble_eq_true rfl) (st := [.ref a0]) rfl ?_
          refine z_aload_n C dX3_removeMark_29 1 rfl rfl ?_
          refine z_getR C fl_X3_29 dX3_removeMark_30 hf (fun x18 hf => ?_)
          refine z_iload C dX3_removeMark_33 0 rfl ?_
          obtain ⟨x20, g19, hf⟩ := zbind hf
          refine z_callV (kc' := 0) (ks' := 0) C (MX1_at (xl X) (xD X) (xT X) (xlo X) al hi g19) (OX1_at g19) rfl cw_X3_83 yv_X1_at dX3_removeMark_35 rfl (by decide) ⟨rfl, rfl⟩ (Nat.le_of_ble_eq_true rfl) (st := [.int x17, .ref a0]) rfl ?_
          refine z_aload_n C dX3_removeMark_38 1 rfl rfl ?_
          refine z_getR C fl_X3_32 dX3_removeMark_39 hf (fun x21 hf => ?_)
          refine z_iload C dX3_removeMark_42 0 rfl ?_
          obtain ⟨x23, g22, hf⟩ := zbind hf
          refine z_callV (kc' := 0) (ks' := 0) C (MX1_at (xl X) (xD X) (xT X) (xlo X) al hi g22) (OX1_at g22) rfl cw_X3_83 yv_X1_at dX3_removeMark_44 rfl (by decide) ⟨rfl, rfl⟩ (Nat.le_of_ble_eq_true rfl) (st := [.int x20, .int x17, .ref a0]) rfl ?_
          refine z_aload_n C dX3_removeMark_47 1 rfl rfl ?_
          refine z_getR C fl_X3_35 dX3_removeMark_48 hf (fun x24 hf => ?_)
          refine z_iload C dX3_removeMark_51 0 rfl ?_
          obtain ⟨x26, g25, hf⟩ := zbind hf
          refine z_callV (kc' := 0) (ks' := 0) C (MX1_at (xl X) (xD X) (xT X) (xlo X) al hi g25) (OX1_at g25) rfl cw_X3_83 yv_X1_at dX3_removeMark_53 rfl (by decide) ⟨rfl, rfl⟩ (Nat.le_of_ble_eq_true rfl) (st := [.int x23, .int x20, .int x17, .ref a0]) rfl ?_
          refine z_aload_n C dX3_removeMark_56 1 rfl rfl ?_
          refine z_getR C fl_X3_38 dX3_removeMark_57 hf (fun x27 hf => ?_)
          refine z_iload C dX3_removeMark_60 0 rfl ?_
          obtain ⟨x29, g28, hf⟩ := zbind hf
          refine z_callV (kc' := 0) (ks' := 0) C (MX1_at (xl X) (xD X) (xT X) (xlo X) al hi g28) (OX1_at g28) rfl cw_X3_83 yv_X1_at dX3_removeMark_62 rfl (by decide) ⟨rfl, rfl⟩ (Nat.le_of_ble_eq_true rfl) (st := [.int x26, .int x23, .int x20, .int x17, .ref a0]) rfl ?_
          obtain ⟨h31, g30, hf⟩ := zbind hf
          refine z_callV (kc' := 0) (ks' := 0) C (MX3_putMark (xl X) (xD X) (xT X) (xlo X) al hi g30) (OX3_putMark g30) rfl cw_X3_101 yv_X3_putMark dX3_removeMark_65 rfl (by decide) ⟨rfl, rfl⟩ (Nat.le_of_ble_eq_true rfl) (st := []) rfl ?_
          refine z_sub [1, 2, 3] rfl ?_
          exact kJ6 _ hf
theorem MX3_removeMark (l : Launch) (D : va_G) (T : zT) (lo : Nat) (al : Bool) (hi : Nat) {h : zH} {a0 : Nat} {p0 : Int32} {p1 : Int32} {p2 : Int32} {h9 : zH} (hf : FX3_removeMark T a0 p0 p1 p2 h = some h9) : zM l yX3_removeMark (.code yX3_removeMark cX3_removeMark 5 none :: TW) ({ frames := 2, cells := 0, slots := 0, locals := 47 } : Room) D T lo al [.ref a0, .int p0, .int p1, .int p2] hi h (none, hi, h9) :=
  z_enter (own := RX3) (nm := "removeMark") (lv := [(0, .ref a0), (1, .int p0), (2, .int p1), (3, .int p2)]) (by decide +kernel) rfl rfl (Nat.le_of_ble_eq_true rfl) rfl (fun _ _ _ _ _ _ _ _ C => BX3_removeMark C hf)
theorem OX3_removeMark {T : zT} {h : zH} {a0 : Nat} {p0 : Int32} {p1 : Int32} {p2 : Int32} {r9 : zH} (hf : FX3_removeMark T a0 p0 p1 p2 h = some r9) : ∃ fs, h a0 = some (.inr (3, fs)) := by
  obtain ⟨_, h1, _⟩ := zbind hf
  exact zo_obj h1
theorem dX6_isLetter_0 : decode cX6_isLetter 0 = .ok (.iload_n 0, 1) := by decide +kernel
theorem dX6_isLetter_1 : decode cX6_isLetter 1 = .ok (.ifCond .lt 12, 3) := by decide +kernel
theorem dX6_isLetter_4 : decode cX6_isLetter 4 = .ok (.iload_n 0, 1) := by decide +kernel
theorem dX6_isLetter_5 : decode cX6_isLetter 5 = .ok (.iconst 2, 1) := by decide +kernel
theorem dX6_isLetter_6 : decode cX6_isLetter 6 = .ok (.if_icmp .ge 7, 3) := by decide +kernel
theorem dX6_isLetter_9 : decode cX6_isLetter 9 = .ok (.iconst 1, 1) := by decide +kernel
theorem dX6_isLetter_10 : decode cX6_isLetter 10 = .ok (.goto 4, 3) := by decide +kernel
theorem dX6_isLetter_13 : decode cX6_isLetter 13 = .ok (.iconst 0, 1) := by decide +kernel
theorem dX6_isLetter_14 : decode cX6_isLetter 14 = .ok (.ireturn, 1) := by decide +kernel
def FX6_isLetter (T : zT) (p0 : Int32) (h : zH) : Option Int32 := zJ (fun (x1 : Int32) => if x1 = 0 ∨ x1 = 1 then some x1 else none) (fun J2 => zJ (fun (u9 : Unit) => J2 0) (fun J3 => if p0 < 0 then (J3 ()) else (if 2 ≤ p0 then (J3 ()) else (J2 1))))
set_option maxHeartbeats 4000000 in
set_option maxRecDepth 100000 in
theorem BX6_isLetter {X : zX} (C : zC X cX6_isLetter 1 RX6 "isLetter" (some .boolean) 0 0) {al : Bool} {hi : Nat} {h : zH} {p0 : Int32} {r9 : Int32} (hf : FX6_isLetter (xT X) p0 h = some r9) : zW X 1 (zZ X al (some (.int r9), hi, h)) 0 0 al hi h 0 [(0, .int p0)] [] := by
  unfold FX6_isLetter at hf
  refine z_join (P := fun J => ∀ (x1 : Int32), J x1 = some r9 → zW X 1 (zZ X al (some (.int r9), hi, h)) 0 0 al hi h 14 [] [.int x1]) hf ?_ ?_
  · intro x1 hf
    refine z_ite hf (fun c hf => ?_) (fun c hf => nomatch hf)
    exact z_zreturn C dX6_isLetter_14 c (by cases hf; rfl)
  · intro J2 kJ2 hf
    refine z_join (P := fun J => ∀ (u9 : Unit), J u9 = some r9 → zW X 1 (zZ X al (some (.int r9), hi, h)) 0 0 al hi h 13 [] []) hf ?_ ?_
    · intro u9 hf
      refine z_iconst C (v := 0) dX6_isLetter_13 (by decide) ?_
      exact kJ2 _ hf
    · intro J3 kJ3 hf
      refine z_iload_n C dX6_isLetter_0 0 rfl rfl ?_
      refine z_if_lt (tgt := 13) C dX6_isLetter_1 (by decide) hf (fun hf => ?_) (fun hf => ?_)
      · refine z_sub [] rfl ?_
        exact kJ3 _ hf
      · refine z_iload_n C dX6_isLetter_4 0 rfl rfl ?_
        refine z_iconst C (v := 2) dX6_isLetter_5 (by decide) ?_
        refine z_icmp_ge (tgt := 13) C dX6_isLetter_6 (by decide) hf (fun hf => ?_) (fun hf => ?_)
        · refine z_sub [] rfl ?_
          exact kJ3 _ hf
        · refine z_iconst C (v := 1) dX6_isLetter_9 (by decide) ?_
          refine z_goto (tgt := 14) C dX6_isLetter_10 (by decide) ?_
          refine z_sub [] rfl ?_
          exact kJ2 _ hf
theorem MX6_isLetter (l : Launch) (D : va_G) (T : zT) (lo : Nat) (al : Bool) (hi : Nat) {h : zH} {p0 : Int32} {v9 : Int32} (hf : FX6_isLetter T p0 h = some v9) : zM l yX6_isLetter (.code yX6_isLetter cX6_isLetter 1 (some .boolean) :: TW) ({ frames := 0, cells := 0, slots := 0, locals := 0 } : Room) D T lo al [.int p0] hi h (some (.int v9), hi, h) :=
  z_enter (own := RX6) (nm := "isLetter") (lv := [(0, .int p0)]) (by decide +kernel) rfl rfl (Nat.le_of_ble_eq_true rfl) rfl (fun _ _ _ _ _ _ _ _ C => BX6_isLetter C hf)
theorem dX3_decisionOf_0 : decode cX3_decisionOf 0 = .ok (.aload_n 0, 1) := by decide +kernel
theorem dX3_decisionOf_1 : decode cX3_decisionOf 1 = .ok (.iload_n 1, 1) := by decide +kernel
theorem dX3_decisionOf_2 : decode cX3_decisionOf 2 = .ok (.iload_n 2, 1) := by decide +kernel
theorem dX3_decisionOf_3 : decode cX3_decisionOf 3 = .ok (.iload_n 3, 1) := by decide +kernel
theorem dX3_decisionOf_4 : decode cX3_decisionOf 4 = .ok (.invokevirtual 105, 3) := by decide +kernel
theorem dX3_decisionOf_7 : decode cX3_decisionOf 7 = .ok (.ifCond .eq 19, 3) := by decide +kernel
theorem dX3_decisionOf_10 : decode cX3_decisionOf 10 = .ok (.aload_n 0, 1) := by decide +kernel
theorem dX3_decisionOf_11 : decode cX3_decisionOf 11 = .ok (.getfield 38, 3) := by decide +kernel
theorem dX3_decisionOf_14 : decode cX3_decisionOf 14 = .ok (.iload_n 1, 1) := by decide +kernel
theorem dX3_decisionOf_15 : decode cX3_decisionOf 15 = .ok (.iload_n 2, 1) := by decide +kernel
theorem dX3_decisionOf_16 : decode cX3_decisionOf 16 = .ok (.iload_n 3, 1) := by decide +kernel
theorem dX3_decisionOf_17 : decode cX3_decisionOf 17 = .ok (.invokestatic 97, 3) := by decide +kernel
theorem dX3_decisionOf_20 : decode cX3_decisionOf 20 = .ok (.invokevirtual 83, 3) := by decide +kernel
theorem dX3_decisionOf_23 : decode cX3_decisionOf 23 = .ok (.goto 5, 3) := by decide +kernel
theorem dX3_decisionOf_26 : decode cX3_decisionOf 26 = .ok (.bipush (-9), 2) := by decide +kernel
theorem dX3_decisionOf_28 : decode cX3_decisionOf 28 = .ok (.ireturn, 1) := by decide +kernel
def FX3_decisionOf (T : zT) (a0 : Nat) (p0 : Int32) (p1 : Int32) (p2 : Int32) (h : zH) : Option Int32 := (zo h a0 3).bind fun _ => zJ (fun (x1 : Int32) => some x1) (fun J2 => (FX3_hasMark T a0 p0 p1 p2 h).bind fun x4 => if x4 = 0 then (J2 (-9 : Int32)) else ((zgr h a0 3 11).bind fun x5 => (FX6_placeOf T p0 p1 p2 h).bind fun x7 => (FX1_at T x5 x7 h).bind fun x9 => J2 x9))
set_option maxHeartbeats 4000000 in
set_option maxRecDepth 100000 in
theorem BX3_decisionOf {X : zX} (C : zC X cX3_decisionOf 4 RX3 "decisionOf" (some .int) 2 45) {al : Bool} {hi : Nat} {h : zH} {a0 : Nat} {p0 : Int32} {p1 : Int32} {p2 : Int32} {r9 : Int32} (hf : FX3_decisionOf (xT X) a0 p0 p1 p2 h = some r9) : zW X 4 (zZ X al (some (.int r9), hi, h)) 0 0 al hi h 0 [(0, .ref a0), (1, .int p0), (2, .int p1), (3, .int p2)] [] := by
  unfold FX3_decisionOf at hf
  obtain ⟨_, _, hf⟩ := zbind hf
  refine z_join (P := fun J => ∀ (x1 : Int32), J x1 = some r9 → zW X 4 (zZ X al (some (.int r9), hi, h)) 0 0 al hi h 28 [] [.int x1]) hf ?_ ?_
  · intro x1 hf
    exact z_ireturn C dX3_decisionOf_28 (by cases hf; rfl)
  · intro J2 kJ2 hf
    refine z_aload_n C dX3_decisionOf_0 0 rfl rfl ?_
    refine z_iload_n C dX3_decisionOf_1 1 rfl rfl ?_
    refine z_iload_n C dX3_decisionOf_2 2 rfl rfl ?_
    refine z_iload_n C dX3_decisionOf_3 3 rfl rfl ?_
    obtain ⟨x4, g3, hf⟩ := zbind hf
    refine z_callV (kc' := 0) (ks' := 0) C (MX3_hasMark (xl X) (xD X) (xT X) (xlo X) al hi g3) (OX3_hasMark g3) rfl cw_X3_105 yv_X3_hasMark dX3_decisionOf_4 rfl (by decide) ⟨rfl, rfl⟩ (Nat.le_of_ble_eq_true rfl) (st := []) rfl ?_
    refine z_if_eq (tgt := 26) C dX3_decisionOf_7 (by decide) hf (fun hf => ?_) (fun hf => ?_)
    · refine z_bipush C (v := (-9 : Int32)) dX3_decisionOf_26 (by decide) ?_
      refine z_sub [] rfl ?_
      exact kJ2 _ hf
    · refine z_aload_n C dX3_decisionOf_10 0 rfl rfl ?_
      refine z_getR C fl_X3_38 dX3_decisionOf_11 hf (fun x5 hf => ?_)
      refine z_iload_n C dX3_decisionOf_14 1 rfl rfl ?_
      refine z_iload_n C dX3_decisionOf_15 2 rfl rfl ?_
      refine z_iload_n C dX3_decisionOf_16 3 rfl rfl ?_
      obtain ⟨x7, g6, hf⟩ := zbind hf
      refine z_callSN (kc' := 0) (ks' := 0) C (MX6_placeOf (xl X) (xD X) (xT X) (xlo X) al hi g6) cw_X3_97 nw_X3_97 mw_408 mw_26 ys_X6_placeOf dX3_decisionOf_17 rfl (by decide) ⟨rfl, rfl⟩ (Nat.le_of_ble_eq_true rfl) (st := [.ref x5]) rfl ?_
      obtain ⟨x9, g8, hf⟩ := zbind hf
      refine z_callV (kc' := 0) (ks' := 0) C (MX1_at (xl X) (xD X) (xT X) (xlo X) al hi g8) (OX1_at g8) rfl cw_X3_83 yv_X1_at dX3_decisionOf_20 rfl (by decide) ⟨rfl, rfl⟩ (Nat.le_of_ble_eq_true rfl) (st := []) rfl ?_
      refine z_goto (tgt := 28) C dX3_decisionOf_23 (by decide) ?_
      refine z_sub [] rfl ?_
      exact kJ2 _ hf
theorem MX3_decisionOf (l : Launch) (D : va_G) (T : zT) (lo : Nat) (al : Bool) (hi : Nat) {h : zH} {a0 : Nat} {p0 : Int32} {p1 : Int32} {p2 : Int32} {v9 : Int32} (hf : FX3_decisionOf T a0 p0 p1 p2 h = some v9) : zM l yX3_decisionOf (.code yX3_decisionOf cX3_decisionOf 4 (some .int) :: TW) ({ frames := 2, cells := 0, slots := 0, locals := 45 } : Room) D T lo al [.ref a0, .int p0, .int p1, .int p2] hi h (some (.int v9), hi, h) :=
  z_enter (own := RX3) (nm := "decisionOf") (lv := [(0, .ref a0), (1, .int p0), (2, .int p1), (3, .int p2)]) (by decide +kernel) rfl rfl (Nat.le_of_ble_eq_true rfl) rfl (fun _ _ _ _ _ _ _ _ C => BX3_decisionOf C hf)
theorem OX3_decisionOf {T : zT} {h : zH} {a0 : Nat} {p0 : Int32} {p1 : Int32} {p2 : Int32} {r9 : Int32} (hf : FX3_decisionOf T a0 p0 p1 p2 h = some r9) : ∃ fs, h a0 = some (.inr (3, fs)) := by
  obtain ⟨_, h1, _⟩ := zbind hf
  exact zo_obj h1
theorem dX3_otherHasDecision_0 : decode cX3_otherHasDecision 0 = .ok (.iload 4, 2) := by decide +kernel
theorem dX3_otherHasDecision_2 : decode cX3_otherHasDecision 2 = .ok (.invokestatic 109, 3) := by decide +kernel
theorem dX3_otherHasDecision_5 : decode cX3_otherHasDecision 5 = .ok (.ifCond .eq 21, 3) := by decide +kernel
theorem dX3_otherHasDecision_8 : decode cX3_otherHasDecision 8 = .ok (.aload_n 0, 1) := by decide +kernel
theorem dX3_otherHasDecision_9 : decode cX3_otherHasDecision 9 = .ok (.iload_n 1, 1) := by decide +kernel
theorem dX3_otherHasDecision_10 : decode cX3_otherHasDecision 10 = .ok (.iload_n 2, 1) := by decide +kernel
theorem dX3_otherHasDecision_11 : decode cX3_otherHasDecision 11 = .ok (.iconst 1, 1) := by decide +kernel
theorem dX3_otherHasDecision_12 : decode cX3_otherHasDecision 12 = .ok (.iload_n 3, 1) := by decide +kernel
theorem dX3_otherHasDecision_13 : decode cX3_otherHasDecision 13 = .ok (.isub, 1) := by decide +kernel
theorem dX3_otherHasDecision_14 : decode cX3_otherHasDecision 14 = .ok (.invokevirtual 112, 3) := by decide +kernel
theorem dX3_otherHasDecision_17 : decode cX3_otherHasDecision 17 = .ok (.iload 4, 2) := by decide +kernel
theorem dX3_otherHasDecision_19 : decode cX3_otherHasDecision 19 = .ok (.if_icmp .ne 7, 3) := by decide +kernel
theorem dX3_otherHasDecision_22 : decode cX3_otherHasDecision 22 = .ok (.iconst 1, 1) := by decide +kernel
theorem dX3_otherHasDecision_23 : decode cX3_otherHasDecision 23 = .ok (.goto 4, 3) := by decide +kernel
theorem dX3_otherHasDecision_26 : decode cX3_otherHasDecision 26 = .ok (.iconst 0, 1) := by decide +kernel
theorem dX3_otherHasDecision_27 : decode cX3_otherHasDecision 27 = .ok (.ireturn, 1) := by decide +kernel
def FX3_otherHasDecision (T : zT) (a0 : Nat) (p0 : Int32) (p1 : Int32) (p2 : Int32) (p3 : Int32) (h : zH) : Option Int32 := (zo h a0 3).bind fun _ => zJ (fun (x1 : Int32) => if x1 = 0 ∨ x1 = 1 then some x1 else none) (fun J2 => zJ (fun (u9 : Unit) => J2 0) (fun J3 => (FX6_isLetter T p3 h).bind fun x5 => if x5 = 0 then (J3 ()) else ((FX3_decisionOf T a0 p0 p1 (1 - p2) h).bind fun x7 => if x7 = p3 then (J2 1) else (J3 ()))))
set_option maxHeartbeats 4000000 in
set_option maxRecDepth 100000 in
theorem BX3_otherHasDecision {X : zX} (C : zC X cX3_otherHasDecision 5 RX3 "otherHasDecision" (some .boolean) 3 68) {al : Bool} {hi : Nat} {h : zH} {a0 : Nat} {p0 : Int32} {p1 : Int32} {p2 : Int32} {p3 : Int32} {r9 : Int32} (hf : FX3_otherHasDecision (xT X) a0 p0 p1 p2 p3 h = some r9) : zW X 5 (zZ X al (some (.int r9), hi, h)) 0 0 al hi h 0 [(0, .ref a0), (1, .int p0), (2, .int p1), (3, .int p2), (4, .int p3)] [] := by
  unfold FX3_otherHasDecision at hf
  obtain ⟨_, _, hf⟩ := zbind hf
  refine z_join (P := fun J => ∀ (x1 : Int32), J x1 = some r9 → zW X 5 (zZ X al (some (.int r9), hi, h)) 0 0 al hi h 27 [] [.int x1]) hf ?_ ?_
  · intro x1 hf
    refine z_ite hf (fun c hf => ?_) (fun c hf => nomatch hf)
    exact z_zreturn C dX3_otherHasDecision_27 c (by cases hf; rfl)
  · intro J2 kJ2 hf
    refine z_join (P := fun J => ∀ (u9 : Unit), J u9 = some r9 → zW X 5 (zZ X al (some (.int r9), hi, h)) 0 0 al hi h 26 [] []) hf ?_ ?_
    · intro u9 hf
      refine z_iconst C (v := 0) dX3_otherHasDecision_26 (by decide) ?_
      exact kJ2 _ hf
    · intro J3 kJ3 hf
      refine z_iload C dX3_otherHasDecision_0 4 rfl ?_
      obtain ⟨x5, g4, hf⟩ := zbind hf
      refine z_callSN (kc' := 0) (ks' := 0) C (MX6_isLetter (xl X) (xD X) (xT X) (xlo X) al hi g4) cw_X3_109 nw_X3_109 mw_544 mw_26 ys_X6_isLetter dX3_otherHasDecision_2 rfl (by decide) ⟨rfl, rfl⟩ (Nat.le_of_ble_eq_true rfl) (st := []) rfl ?_
      refine z_if_eq (tgt := 26) C dX3_otherHasDecision_5 (by decide) hf (fun hf => ?_) (fun hf => ?_)
      · refine z_sub [] rfl ?_
        exact kJ3 _ hf
      · refine z_aload_n C dX3_otherHasDecision_8 0 rfl rfl ?_
        refine z_iload_n C dX3_otherHasDecision_9 1 rfl rfl ?_
        refine z_iload_n C dX3_otherHasDecision_10 2 rfl rfl ?_
        refine z_iconst C (v := 1) dX3_otherHasDecision_11 (by decide) ?_
        refine z_iload_n C dX3_otherHasDecision_12 3 rfl rfl ?_
        refine z_isub C dX3_otherHasDecision_13 ?_
        obtain ⟨x7, g6, hf⟩ := zbind hf
        refine z_callV (kc' := 0) (ks' := 0) C (MX3_decisionOf (xl X) (xD X) (xT X) (xlo X) al hi g6) (OX3_decisionOf g6) rfl cw_X3_112 yv_X3_decisionOf dX3_otherHasDecision_14 rfl (by decide) ⟨rfl, rfl⟩ (Nat.le_of_ble_eq_true rfl) (st := []) rfl ?_
        refine z_iload C dX3_otherHasDecision_17 4 rfl ?_
        refine z_icmp_ne (tgt := 26) C dX3_otherHasDecision_19 (by decide) hf (fun hf => ?_) (fun hf => ?_)
        · refine z_sub [] rfl ?_
          exact kJ3 _ hf
        · refine z_iconst C (v := 1) dX3_otherHasDecision_22 (by decide) ?_
          refine z_goto (tgt := 27) C dX3_otherHasDecision_23 (by decide) ?_
          refine z_sub [] rfl ?_
          exact kJ2 _ hf
theorem MX3_otherHasDecision (l : Launch) (D : va_G) (T : zT) (lo : Nat) (al : Bool) (hi : Nat) {h : zH} {a0 : Nat} {p0 : Int32} {p1 : Int32} {p2 : Int32} {p3 : Int32} {v9 : Int32} (hf : FX3_otherHasDecision T a0 p0 p1 p2 p3 h = some v9) : zM l yX3_otherHasDecision (.code yX3_otherHasDecision cX3_otherHasDecision 5 (some .boolean) :: TW) ({ frames := 3, cells := 0, slots := 0, locals := 68 } : Room) D T lo al [.ref a0, .int p0, .int p1, .int p2, .int p3] hi h (some (.int v9), hi, h) :=
  z_enter (own := RX3) (nm := "otherHasDecision") (lv := [(0, .ref a0), (1, .int p0), (2, .int p1), (3, .int p2), (4, .int p3)]) (by decide +kernel) rfl rfl (Nat.le_of_ble_eq_true rfl) rfl (fun _ _ _ _ _ _ _ _ C => BX3_otherHasDecision C hf)
theorem OX3_otherHasDecision {T : zT} {h : zH} {a0 : Nat} {p0 : Int32} {p1 : Int32} {p2 : Int32} {p3 : Int32} {r9 : Int32} (hf : FX3_otherHasDecision T a0 p0 p1 p2 p3 h = some r9) : ∃ fs, h a0 = some (.inr (3, fs)) := by
  obtain ⟨_, h1, _⟩ := zbind hf
  exact zo_obj h1
theorem dX6_letterOrNone_0 : decode cX6_letterOrNone 0 = .ok (.iload_n 0, 1) := by decide +kernel
theorem dX6_letterOrNone_1 : decode cX6_letterOrNone 1 = .ok (.invokestatic 313, 3) := by decide +kernel
theorem dX6_letterOrNone_4 : decode cX6_letterOrNone 4 = .ok (.ifCond .eq 7, 3) := by decide +kernel
theorem dX6_letterOrNone_7 : decode cX6_letterOrNone 7 = .ok (.iload_n 0, 1) := by decide +kernel
theorem dX6_letterOrNone_8 : decode cX6_letterOrNone 8 = .ok (.goto 5, 3) := by decide +kernel
theorem dX6_letterOrNone_11 : decode cX6_letterOrNone 11 = .ok (.bipush (-9), 2) := by decide +kernel
theorem dX6_letterOrNone_13 : decode cX6_letterOrNone 13 = .ok (.ireturn, 1) := by decide +kernel
def FX6_letterOrNone (T : zT) (p0 : Int32) (h : zH) : Option Int32 := zJ (fun (x1 : Int32) => some x1) (fun J2 => (FX6_isLetter T p0 h).bind fun x4 => if x4 = 0 then (J2 (-9 : Int32)) else (J2 p0))
set_option maxHeartbeats 4000000 in
set_option maxRecDepth 100000 in
theorem BX6_letterOrNone {X : zX} (C : zC X cX6_letterOrNone 1 RX6 "letterOrNone" (some .int) 1 20) {al : Bool} {hi : Nat} {h : zH} {p0 : Int32} {r9 : Int32} (hf : FX6_letterOrNone (xT X) p0 h = some r9) : zW X 1 (zZ X al (some (.int r9), hi, h)) 0 0 al hi h 0 [(0, .int p0)] [] := by
  unfold FX6_letterOrNone at hf
  refine z_join (P := fun J => ∀ (x1 : Int32), J x1 = some r9 → zW X 1 (zZ X al (some (.int r9), hi, h)) 0 0 al hi h 13 [] [.int x1]) hf ?_ ?_
  · intro x1 hf
    exact z_ireturn C dX6_letterOrNone_13 (by cases hf; rfl)
  · intro J2 kJ2 hf
    refine z_iload_n C dX6_letterOrNone_0 0 rfl rfl ?_
    obtain ⟨x4, g3, hf⟩ := zbind hf
    refine z_callS (kc' := 0) (ks' := 0) C (MX6_isLetter (xl X) (xD X) (xT X) (xlo X) al hi g3) cw_X6_313 ys_X6_isLetter dX6_letterOrNone_1 rfl (by decide) ⟨rfl, rfl⟩ (Nat.le_of_ble_eq_true rfl) (st := []) rfl ?_
    refine z_if_eq (tgt := 11) C dX6_letterOrNone_4 (by decide) hf (fun hf => ?_) (fun hf => ?_)
    · refine z_bipush C (v := (-9 : Int32)) dX6_letterOrNone_11 (by decide) ?_
      refine z_sub [] rfl ?_
      exact kJ2 _ hf
    · refine z_iload_n C dX6_letterOrNone_7 0 rfl rfl ?_
      refine z_goto (tgt := 13) C dX6_letterOrNone_8 (by decide) ?_
      refine z_sub [] rfl ?_
      exact kJ2 _ hf
theorem MX6_letterOrNone (l : Launch) (D : va_G) (T : zT) (lo : Nat) (al : Bool) (hi : Nat) {h : zH} {p0 : Int32} {v9 : Int32} (hf : FX6_letterOrNone T p0 h = some v9) : zM l yX6_letterOrNone (.code yX6_letterOrNone cX6_letterOrNone 1 (some .int) :: TW) ({ frames := 1, cells := 0, slots := 0, locals := 20 } : Room) D T lo al [.int p0] hi h (some (.int v9), hi, h) :=
  z_enter (own := RX6) (nm := "letterOrNone") (lv := [(0, .int p0)]) (by decide +kernel) rfl rfl (Nat.le_of_ble_eq_true rfl) rfl (fun _ _ _ _ _ _ _ _ C => BX6_letterOrNone C hf)
theorem dX3_putDecision_0 : decode cX3_putDecision 0 = .ok (.aload_n 0, 1) := by decide +kernel
theorem dX3_putDecision_1 : decode cX3_putDecision 1 = .ok (.iload_n 1, 1) := by decide +kernel
theorem dX3_putDecision_2 : decode cX3_putDecision 2 = .ok (.iload_n 2, 1) := by decide +kernel
theorem dX3_putDecision_3 : decode cX3_putDecision 3 = .ok (.iload_n 3, 1) := by decide +kernel
theorem dX3_putDecision_4 : decode cX3_putDecision 4 = .ok (.invokevirtual 105, 3) := by decide +kernel
theorem dX3_putDecision_7 : decode cX3_putDecision 7 = .ok (.ifCond .eq 21, 3) := by decide +kernel
theorem dX3_putDecision_10 : decode cX3_putDecision 10 = .ok (.aload_n 0, 1) := by decide +kernel
theorem dX3_putDecision_11 : decode cX3_putDecision 11 = .ok (.getfield 38, 3) := by decide +kernel
theorem dX3_putDecision_14 : decode cX3_putDecision 14 = .ok (.iload_n 1, 1) := by decide +kernel
theorem dX3_putDecision_15 : decode cX3_putDecision 15 = .ok (.iload_n 2, 1) := by decide +kernel
theorem dX3_putDecision_16 : decode cX3_putDecision 16 = .ok (.iload_n 3, 1) := by decide +kernel
theorem dX3_putDecision_17 : decode cX3_putDecision 17 = .ok (.invokestatic 97, 3) := by decide +kernel
theorem dX3_putDecision_20 : decode cX3_putDecision 20 = .ok (.iload 4, 2) := by decide +kernel
theorem dX3_putDecision_22 : decode cX3_putDecision 22 = .ok (.invokestatic 115, 3) := by decide +kernel
theorem dX3_putDecision_25 : decode cX3_putDecision 25 = .ok (.invokevirtual 72, 3) := by decide +kernel
theorem dX3_putDecision_28 : decode cX3_putDecision 28 = .ok (.return_, 1) := by decide +kernel
def FX3_putDecision (T : zT) (a0 : Nat) (p0 : Int32) (p1 : Int32) (p2 : Int32) (p3 : Int32) (h : zH) : Option zH := (zo h a0 3).bind fun _ => zJ (fun (h1 : zH) => some h1) (fun J2 => (FX3_hasMark T a0 p0 p1 p2 h).bind fun x4 => if x4 = 0 then (J2 h) else ((zgr h a0 3 11).bind fun x5 => (FX6_placeOf T p0 p1 p2 h).bind fun x7 => (FX6_letterOrNone T p3 h).bind fun x9 => (FX1_put T x5 x7 x9 h).bind fun h11 => J2 h11))
set_option maxHeartbeats 4000000 in
set_option maxRecDepth 100000 in
theorem BX3_putDecision {X : zX} (C : zC X cX3_putDecision 5 RX3 "putDecision" none 2 45) {al : Bool} {hi : Nat} {h : zH} {a0 : Nat} {p0 : Int32} {p1 : Int32} {p2 : Int32} {p3 : Int32} {r9 : zH} (hf : FX3_putDecision (xT X) a0 p0 p1 p2 p3 h = some r9) : zW X 5 (zZ X al (none, hi, r9)) 0 0 al hi h 0 [(0, .ref a0), (1, .int p0), (2, .int p1), (3, .int p2), (4, .int p3)] [] := by
  unfold FX3_putDecision at hf
  obtain ⟨_, _, hf⟩ := zbind hf
  refine z_join (P := fun J => ∀ (h1 : zH), J h1 = some r9 → zW X 5 (zZ X al (none, hi, r9)) 0 0 al hi h1 28 [] []) hf ?_ ?_
  · intro h1 hf
    exact z_vreturn C dX3_putDecision_28 (by cases hf; rfl)
  · intro J2 kJ2 hf
    refine z_aload_n C dX3_putDecision_0 0 rfl rfl ?_
    refine z_iload_n C dX3_putDecision_1 1 rfl rfl ?_
    refine z_iload_n C dX3_putDecision_2 2 rfl rfl ?_
    refine z_iload_n C dX3_putDecision_3 3 rfl rfl ?_
    obtain ⟨x4, g3, hf⟩ := zbind hf
    refine z_callV (kc' := 0) (ks' := 0) C (MX3_hasMark (xl X) (xD X) (xT X) (xlo X) al hi g3) (OX3_hasMark g3) rfl cw_X3_105 yv_X3_hasMark dX3_putDecision_4 rfl (by decide) ⟨rfl, rfl⟩ (Nat.le_of_ble_eq_true rfl) (st := []) rfl ?_
    refine z_if_eq (tgt := 28) C dX3_putDecision_7 (by decide) hf (fun hf => ?_) (fun hf => ?_)
    · refine z_sub [] rfl ?_
      exact kJ2 _ hf
    · refine z_aload_n C dX3_putDecision_10 0 rfl rfl ?_
      refine z_getR C fl_X3_38 dX3_putDecision_11 hf (fun x5 hf => ?_)
      refine z_iload_n C dX3_putDecision_14 1 rfl rfl ?_
      refine z_iload_n C dX3_putDecision_15 2 rfl rfl ?_
      refine z_iload_n C dX3_putDecision_16 3 rfl rfl ?_
      obtain ⟨x7, g6, hf⟩ := zbind hf
      refine z_callSN (kc' := 0) (ks' := 0) C (MX6_placeOf (xl X) (xD X) (xT X) (xlo X) al hi g6) cw_X3_97 nw_X3_97 mw_408 mw_26 ys_X6_placeOf dX3_putDecision_17 rfl (by decide) ⟨rfl, rfl⟩ (Nat.le_of_ble_eq_true rfl) (st := [.ref x5]) rfl ?_
      refine z_iload C dX3_putDecision_20 4 rfl ?_
      obtain ⟨x9, g8, hf⟩ := zbind hf
      refine z_callSN (kc' := 0) (ks' := 0) C (MX6_letterOrNone (xl X) (xD X) (xT X) (xlo X) al hi g8) cw_X3_115 nw_X3_115 mw_757 mw_26 ys_X6_letterOrNone dX3_putDecision_22 rfl (by decide) ⟨rfl, rfl⟩ (Nat.le_of_ble_eq_true rfl) (st := [.int x7, .ref x5]) rfl ?_
      obtain ⟨h11, g10, hf⟩ := zbind hf
      refine z_callV (kc' := 0) (ks' := 0) C (MX1_put (xl X) (xD X) (xT X) (xlo X) al hi g10) (OX1_put g10) rfl cw_X3_72 yv_X1_put dX3_putDecision_25 rfl (by decide) ⟨rfl, rfl⟩ (Nat.le_of_ble_eq_true rfl) (st := []) rfl ?_
      refine z_sub [] rfl ?_
      exact kJ2 _ hf
theorem MX3_putDecision (l : Launch) (D : va_G) (T : zT) (lo : Nat) (al : Bool) (hi : Nat) {h : zH} {a0 : Nat} {p0 : Int32} {p1 : Int32} {p2 : Int32} {p3 : Int32} {h9 : zH} (hf : FX3_putDecision T a0 p0 p1 p2 p3 h = some h9) : zM l yX3_putDecision (.code yX3_putDecision cX3_putDecision 5 none :: TW) ({ frames := 2, cells := 0, slots := 0, locals := 45 } : Room) D T lo al [.ref a0, .int p0, .int p1, .int p2, .int p3] hi h (none, hi, h9) :=
  z_enter (own := RX3) (nm := "putDecision") (lv := [(0, .ref a0), (1, .int p0), (2, .int p1), (3, .int p2), (4, .int p3)]) (by decide +kernel) rfl rfl (Nat.le_of_ble_eq_true rfl) rfl (fun _ _ _ _ _ _ _ _ C => BX3_putDecision C hf)
theorem OX3_putDecision {T : zT} {h : zH} {a0 : Nat} {p0 : Int32} {p1 : Int32} {p2 : Int32} {p3 : Int32} {r9 : zH} (hf : FX3_putDecision T a0 p0 p1 p2 p3 h = some r9) : ∃ fs, h a0 = some (.inr (3, fs)) := by
  obtain ⟨_, h1, _⟩ := zbind hf
  exact zo_obj h1
theorem dX3_firstToDecide_0 : decode cX3_firstToDecide 0 = .ok (.iconst 0, 1) := by decide +kernel
theorem dX3_firstToDecide_1 : decode cX3_firstToDecide 1 = .ok (.istore 4, 2) := by decide +kernel
theorem dX3_firstToDecide_3 : decode cX3_firstToDecide 3 = .ok (.iload 4, 2) := by decide +kernel
theorem dX3_firstToDecide_5 : decode cX3_firstToDecide 5 = .ok (.aload_n 0, 1) := by decide +kernel
theorem dX3_firstToDecide_6 : decode cX3_firstToDecide 6 = .ok (.iload_n 1, 1) := by decide +kernel
theorem dX3_firstToDecide_7 : decode cX3_firstToDecide 7 = .ok (.iload_n 2, 1) := by decide +kernel
theorem dX3_firstToDecide_8 : decode cX3_firstToDecide 8 = .ok (.invokevirtual 94, 3) := by decide +kernel
theorem dX3_firstToDecide_11 : decode cX3_firstToDecide 11 = .ok (.if_icmp .ge 37, 3) := by decide +kernel
theorem dX3_firstToDecide_14 : decode cX3_firstToDecide 14 = .ok (.aload_n 0, 1) := by decide +kernel
theorem dX3_firstToDecide_15 : decode cX3_firstToDecide 15 = .ok (.iload_n 1, 1) := by decide +kernel
theorem dX3_firstToDecide_16 : decode cX3_firstToDecide 16 = .ok (.iload_n 2, 1) := by decide +kernel
theorem dX3_firstToDecide_17 : decode cX3_firstToDecide 17 = .ok (.iload 4, 2) := by decide +kernel
theorem dX3_firstToDecide_19 : decode cX3_firstToDecide 19 = .ok (.invokevirtual 112, 3) := by decide +kernel
theorem dX3_firstToDecide_22 : decode cX3_firstToDecide 22 = .ok (.bipush (-9), 2) := by decide +kernel
theorem dX3_firstToDecide_24 : decode cX3_firstToDecide 24 = .ok (.if_icmp .ne 18, 3) := by decide +kernel
theorem dX3_firstToDecide_27 : decode cX3_firstToDecide 27 = .ok (.aload_n 0, 1) := by decide +kernel
theorem dX3_firstToDecide_28 : decode cX3_firstToDecide 28 = .ok (.iload_n 1, 1) := by decide +kernel
theorem dX3_firstToDecide_29 : decode cX3_firstToDecide 29 = .ok (.iload_n 2, 1) := by decide +kernel
theorem dX3_firstToDecide_30 : decode cX3_firstToDecide 30 = .ok (.iload 4, 2) := by decide +kernel
theorem dX3_firstToDecide_32 : decode cX3_firstToDecide 32 = .ok (.iload_n 3, 1) := by decide +kernel
theorem dX3_firstToDecide_33 : decode cX3_firstToDecide 33 = .ok (.invokevirtual 118, 3) := by decide +kernel
theorem dX3_firstToDecide_36 : decode cX3_firstToDecide 36 = .ok (.ifCond .ne 6, 3) := by decide +kernel
theorem dX3_firstToDecide_39 : decode cX3_firstToDecide 39 = .ok (.iload 4, 2) := by decide +kernel
theorem dX3_firstToDecide_41 : decode cX3_firstToDecide 41 = .ok (.ireturn, 1) := by decide +kernel
theorem dX3_firstToDecide_42 : decode cX3_firstToDecide 42 = .ok (.iinc 4 1, 3) := by decide +kernel
theorem dX3_firstToDecide_45 : decode cX3_firstToDecide 45 = .ok (.goto (-42), 3) := by decide +kernel
theorem dX3_firstToDecide_48 : decode cX3_firstToDecide 48 = .ok (.bipush (-9), 2) := by decide +kernel
theorem dX3_firstToDecide_50 : decode cX3_firstToDecide 50 = .ok (.ireturn, 1) := by decide +kernel
def LX3_firstToDecide_3 {ρ : Type} (T : zT) (h6 : zH) (x1 : Nat) (x2 : Int32) (x3 : Int32) (x4 : Int32) (K0 : Int32 → Option ρ) (K1 : Unit → Option ρ) : Nat → Int32 → Option ρ
  | 0, _ => none
  | k + 1, x5 => (FX3_marksIn T x1 x2 x3 h6).bind fun x8 => if x8 ≤ x5 then (K1 ()) else (zJ (fun (u9 : Unit) => LX3_firstToDecide_3 T h6 x1 x2 x3 x4 K0 K1 k (x5 + 1)) (fun J9 => (FX3_decisionOf T x1 x2 x3 x5 h6).bind fun x11 => if x11 = (-9 : Int32) then ((FX3_otherHasDecision T x1 x2 x3 x5 x4 h6).bind fun x13 => if x13 = 0 then (K0 x5) else (J9 ())) else (J9 ())))
set_option maxHeartbeats 4000000 in
set_option maxRecDepth 100000 in
theorem LX3_firstToDecide_3_ok {X : zX} (C : zC X cX3_firstToDecide 5 RX3 "firstToDecide" (some .int) 4 92) {Z : State → Prop} {al : Bool} {hi : Nat} {ρ : Type} {r9 : ρ} {h6 : zH} {x1 : Nat} {x2 : Int32} {x3 : Int32} {x4 : Int32} {K0 : Int32 → Option ρ} {K1 : Unit → Option ρ} (hK0 : ∀ (y4 : Int32), K0 y4 = some r9 → zW X 5 Z 0 0 al hi h6 39 [(4, .int y4)] []) (hK1 : ∀ (u9 : Unit), K1 u9 = some r9 → zW X 5 Z 0 0 al hi h6 48 [] []) : ∀ (k : Nat) (x5 : Int32), LX3_firstToDecide_3 (xT X) h6 x1 x2 x3 x4 K0 K1 k x5 = some r9 → zW X 5 Z 0 0 al hi h6 3 [(0, .ref x1), (1, .int x2), (2, .int x3), (3, .int x4), (4, .int x5)] [] := by
  intro k
  induction k with
  | zero =>
    intro x5 hf
    have hf : none = some r9 := hf
    cases hf
  | succ k ih =>
    intro x5 hf
    rw [LX3_firstToDecide_3.eq_2] at hf
    refine z_iload C dX3_firstToDecide_3 4 rfl ?_
    refine z_aload_n C dX3_firstToDecide_5 0 rfl rfl ?_
    refine z_iload_n C dX3_firstToDecide_6 1 rfl rfl ?_
    refine z_iload_n C dX3_firstToDecide_7 2 rfl rfl ?_
    obtain ⟨x8, g7, hf⟩ := zbind hf
    refine z_callV (kc' := 0) (ks' := 0) C (MX3_marksIn (xl X) (xD X) (xT X) (xlo X) al hi g7) (OX3_marksIn g7) rfl cw_X3_94 yv_X3_marksIn dX3_firstToDecide_8 rfl (by decide) ⟨rfl, rfl⟩ (Nat.le_of_ble_eq_true rfl) (st := [.int x5]) rfl ?_
    refine z_icmp_ge (tgt := 48) C dX3_firstToDecide_11 (by decide) hf (fun hf => ?_) (fun hf => ?_)
    · refine z_sub [] rfl ?_
      exact hK1 _ hf
    · refine z_join (P := fun J => ∀ (u9 : Unit), J u9 = some r9 → zW X 5 Z 0 0 al hi h6 42 [(0, .ref x1), (1, .int x2), (2, .int x3), (3, .int x4), (4, .int x5)] []) hf ?_ ?_
      · intro u9 hf
        refine z_iinc C dX3_firstToDecide_42 (k := 4) (d := 1) rfl (by decide) (by decide) (lv' := [(4, .int (x5 + 1)), (0, .ref x1), (1, .int x2), (2, .int x3), (3, .int x4)]) rfl ?_
        refine z_goto (tgt := 3) C dX3_firstToDecide_45 (by decide) ?_
        refine z_sub [1, 2, 3, 4, 0] rfl ?_
        exact ih _ hf
      · intro J9 kJ9 hf
        refine z_aload_n C dX3_firstToDecide_14 0 rfl rfl ?_
        refine z_iload_n C dX3_firstToDecide_15 1 rfl rfl ?_
        refine z_iload_n C dX3_firstToDecide_16 2 rfl rfl ?_
        refine z_iload C dX3_firstToDecide_17 4 rfl ?_
        obtain ⟨x11, g10, hf⟩ := zbind hf
        refine z_callV (kc' := 0) (ks' := 0) C (MX3_decisionOf (xl X) (xD X) (xT X) (xlo X) al hi g10) (OX3_decisionOf g10) rfl cw_X3_112 yv_X3_decisionOf dX3_firstToDecide_19 rfl (by decide) ⟨rfl, rfl⟩ (Nat.le_of_ble_eq_true rfl) (st := []) rfl ?_
        refine z_bipush C (v := (-9 : Int32)) dX3_firstToDecide_22 (by decide) ?_
        refine z_icmp_ne (tgt := 42) C dX3_firstToDecide_24 (by decide) hf (fun hf => ?_) (fun hf => ?_)
        · exact kJ9 _ hf
        · refine z_aload_n C dX3_firstToDecide_27 0 rfl rfl ?_
          refine z_iload_n C dX3_firstToDecide_28 1 rfl rfl ?_
          refine z_iload_n C dX3_firstToDecide_29 2 rfl rfl ?_
          refine z_iload C dX3_firstToDecide_30 4 rfl ?_
          refine z_iload_n C dX3_firstToDecide_32 3 rfl rfl ?_
          obtain ⟨x13, g12, hf⟩ := zbind hf
          refine z_callV (kc' := 0) (ks' := 0) C (MX3_otherHasDecision (xl X) (xD X) (xT X) (xlo X) al hi g12) (OX3_otherHasDecision g12) rfl cw_X3_118 yv_X3_otherHasDecision dX3_firstToDecide_33 rfl (by decide) ⟨rfl, rfl⟩ (Nat.le_of_ble_eq_true rfl) (st := []) rfl ?_
          refine z_if_ne (tgt := 42) C dX3_firstToDecide_36 (by decide) hf (fun hf => ?_) (fun hf => ?_)
          · exact kJ9 _ hf
          · refine z_sub [4] rfl ?_
            exact hK0 _ hf
def FX3_firstToDecide (T : zT) (a0 : Nat) (p0 : Int32) (p1 : Int32) (p2 : Int32) (h : zH) : Option Int32 := (zo h a0 3).bind fun _ => LX3_firstToDecide_3 T h a0 p0 p1 p2 (fun (x14 : Int32) => some x14) (fun (u9 : Unit) => some (-9 : Int32)) FUEL 0
set_option maxHeartbeats 4000000 in
set_option maxRecDepth 100000 in
theorem BX3_firstToDecide {X : zX} (C : zC X cX3_firstToDecide 5 RX3 "firstToDecide" (some .int) 4 92) {al : Bool} {hi : Nat} {h : zH} {a0 : Nat} {p0 : Int32} {p1 : Int32} {p2 : Int32} {r9 : Int32} (hf : FX3_firstToDecide (xT X) a0 p0 p1 p2 h = some r9) : zW X 5 (zZ X al (some (.int r9), hi, h)) 0 0 al hi h 0 [(0, .ref a0), (1, .int p0), (2, .int p1), (3, .int p2)] [] := by
  unfold FX3_firstToDecide at hf
  obtain ⟨_, _, hf⟩ := zbind hf
  refine z_iconst C (v := 0) dX3_firstToDecide_0 (by decide) ?_
  refine z_istore C dX3_firstToDecide_1 (by decide) (lv' := [(4, .int 0), (0, .ref a0), (1, .int p0), (2, .int p1), (3, .int p2)]) rfl ?_
  refine z_sub [1, 2, 3, 4, 0] rfl ?_
  refine LX3_firstToDecide_3_ok C ?_ ?_ FUEL _ hf
  · intro x14 hf
    refine z_iload C dX3_firstToDecide_39 0 rfl ?_
    exact z_ireturn C dX3_firstToDecide_41 (by cases hf; rfl)
  · intro u9 hf
    refine z_bipush C (v := (-9 : Int32)) dX3_firstToDecide_48 (by decide) ?_
    exact z_ireturn C dX3_firstToDecide_50 (by cases hf; rfl)
theorem MX3_firstToDecide (l : Launch) (D : va_G) (T : zT) (lo : Nat) (al : Bool) (hi : Nat) {h : zH} {a0 : Nat} {p0 : Int32} {p1 : Int32} {p2 : Int32} {v9 : Int32} (hf : FX3_firstToDecide T a0 p0 p1 p2 h = some v9) : zM l yX3_firstToDecide (.code yX3_firstToDecide cX3_firstToDecide 5 (some .int) :: TW) ({ frames := 4, cells := 0, slots := 0, locals := 92 } : Room) D T lo al [.ref a0, .int p0, .int p1, .int p2] hi h (some (.int v9), hi, h) :=
  z_enter (own := RX3) (nm := "firstToDecide") (lv := [(0, .ref a0), (1, .int p0), (2, .int p1), (3, .int p2)]) (by decide +kernel) rfl rfl (Nat.le_of_ble_eq_true rfl) rfl (fun _ _ _ _ _ _ _ _ C => BX3_firstToDecide C hf)
theorem OX3_firstToDecide {T : zT} {h : zH} {a0 : Nat} {p0 : Int32} {p1 : Int32} {p2 : Int32} {r9 : Int32} (hf : FX3_firstToDecide T a0 p0 p1 p2 h = some r9) : ∃ fs, h a0 = some (.inr (3, fs)) := by
  obtain ⟨_, h1, _⟩ := zbind hf
  exact zo_obj h1
theorem dX3_turnCell_0 : decode cX3_turnCell 0 = .ok (.aload_n 1, 1) := by decide +kernel
theorem dX3_turnCell_1 : decode cX3_turnCell 1 = .ok (.getfield 65, 3) := by decide +kernel
theorem dX3_turnCell_4 : decode cX3_turnCell 4 = .ok (.iconst 1, 1) := by decide +kernel
theorem dX3_turnCell_5 : decode cX3_turnCell 5 = .ok (.isub, 1) := by decide +kernel
theorem dX3_turnCell_6 : decode cX3_turnCell 6 = .ok (.iload_n 3, 1) := by decide +kernel
theorem dX3_turnCell_7 : decode cX3_turnCell 7 = .ok (.isub, 1) := by decide +kernel
theorem dX3_turnCell_8 : decode cX3_turnCell 8 = .ok (.istore 4, 2) := by decide +kernel
theorem dX3_turnCell_10 : decode cX3_turnCell 10 = .ok (.iload_n 2, 1) := by decide +kernel
theorem dX3_turnCell_11 : decode cX3_turnCell 11 = .ok (.istore 5, 2) := by decide +kernel
theorem dX3_turnCell_13 : decode cX3_turnCell 13 = .ok (.iconst 0, 1) := by decide +kernel
theorem dX3_turnCell_14 : decode cX3_turnCell 14 = .ok (.istore 6, 2) := by decide +kernel
theorem dX3_turnCell_16 : decode cX3_turnCell 16 = .ok (.iload 6, 2) := by decide +kernel
theorem dX3_turnCell_18 : decode cX3_turnCell 18 = .ok (.aload_n 1, 1) := by decide +kernel
theorem dX3_turnCell_19 : decode cX3_turnCell 19 = .ok (.iload_n 2, 1) := by decide +kernel
theorem dX3_turnCell_20 : decode cX3_turnCell 20 = .ok (.iload_n 3, 1) := by decide +kernel
theorem dX3_turnCell_21 : decode cX3_turnCell 21 = .ok (.invokevirtual 94, 3) := by decide +kernel
theorem dX3_turnCell_24 : decode cX3_turnCell 24 = .ok (.if_icmp .ge 74, 3) := by decide +kernel
theorem dX3_turnCell_27 : decode cX3_turnCell 27 = .ok (.iload_n 2, 1) := by decide +kernel
theorem dX3_turnCell_28 : decode cX3_turnCell 28 = .ok (.iload_n 3, 1) := by decide +kernel
theorem dX3_turnCell_29 : decode cX3_turnCell 29 = .ok (.iload 6, 2) := by decide +kernel
theorem dX3_turnCell_31 : decode cX3_turnCell 31 = .ok (.invokestatic 97, 3) := by decide +kernel
theorem dX3_turnCell_34 : decode cX3_turnCell 34 = .ok (.istore 7, 2) := by decide +kernel
theorem dX3_turnCell_36 : decode cX3_turnCell 36 = .ok (.bipush 8, 2) := by decide +kernel
theorem dX3_turnCell_38 : decode cX3_turnCell 38 = .ok (.aload_n 1, 1) := by decide +kernel
theorem dX3_turnCell_39 : decode cX3_turnCell 39 = .ok (.getfield 35, 3) := by decide +kernel
theorem dX3_turnCell_42 : decode cX3_turnCell 42 = .ok (.iload 7, 2) := by decide +kernel
theorem dX3_turnCell_44 : decode cX3_turnCell 44 = .ok (.invokevirtual 83, 3) := by decide +kernel
theorem dX3_turnCell_47 : decode cX3_turnCell 47 = .ok (.isub, 1) := by decide +kernel
theorem dX3_turnCell_48 : decode cX3_turnCell 48 = .ok (.istore 8, 2) := by decide +kernel
theorem dX3_turnCell_50 : decode cX3_turnCell 50 = .ok (.aload_n 0, 1) := by decide +kernel
theorem dX3_turnCell_51 : decode cX3_turnCell 51 = .ok (.iload 4, 2) := by decide +kernel
theorem dX3_turnCell_53 : decode cX3_turnCell 53 = .ok (.iload 5, 2) := by decide +kernel
theorem dX3_turnCell_55 : decode cX3_turnCell 55 = .ok (.iload 6, 2) := by decide +kernel
theorem dX3_turnCell_57 : decode cX3_turnCell 57 = .ok (.invokestatic 97, 3) := by decide +kernel
theorem dX3_turnCell_60 : decode cX3_turnCell 60 = .ok (.aload_n 1, 1) := by decide +kernel
theorem dX3_turnCell_61 : decode cX3_turnCell 61 = .ok (.getfield 29, 3) := by decide +kernel
theorem dX3_turnCell_64 : decode cX3_turnCell 64 = .ok (.iload 7, 2) := by decide +kernel
theorem dX3_turnCell_66 : decode cX3_turnCell 66 = .ok (.invokevirtual 83, 3) := by decide +kernel
theorem dX3_turnCell_69 : decode cX3_turnCell 69 = .ok (.aload_n 1, 1) := by decide +kernel
theorem dX3_turnCell_70 : decode cX3_turnCell 70 = .ok (.getfield 32, 3) := by decide +kernel
theorem dX3_turnCell_73 : decode cX3_turnCell 73 = .ok (.iload 7, 2) := by decide +kernel
theorem dX3_turnCell_75 : decode cX3_turnCell 75 = .ok (.invokevirtual 83, 3) := by decide +kernel
theorem dX3_turnCell_78 : decode cX3_turnCell 78 = .ok (.iload 8, 2) := by decide +kernel
theorem dX3_turnCell_80 : decode cX3_turnCell 80 = .ok (.aload_n 1, 1) := by decide +kernel
theorem dX3_turnCell_81 : decode cX3_turnCell 81 = .ok (.getfield 38, 3) := by decide +kernel
theorem dX3_turnCell_84 : decode cX3_turnCell 84 = .ok (.iload 7, 2) := by decide +kernel
theorem dX3_turnCell_86 : decode cX3_turnCell 86 = .ok (.invokevirtual 83, 3) := by decide +kernel
theorem dX3_turnCell_89 : decode cX3_turnCell 89 = .ok (.invokevirtual 101, 3) := by decide +kernel
theorem dX3_turnCell_92 : decode cX3_turnCell 92 = .ok (.iinc 6 1, 3) := by decide +kernel
theorem dX3_turnCell_95 : decode cX3_turnCell 95 = .ok (.goto (-79), 3) := by decide +kernel
theorem dX3_turnCell_98 : decode cX3_turnCell 98 = .ok (.aload_n 0, 1) := by decide +kernel
theorem dX3_turnCell_99 : decode cX3_turnCell 99 = .ok (.getfield 26, 3) := by decide +kernel
theorem dX3_turnCell_102 : decode cX3_turnCell 102 = .ok (.iload 4, 2) := by decide +kernel
theorem dX3_turnCell_104 : decode cX3_turnCell 104 = .ok (.iload 5, 2) := by decide +kernel
theorem dX3_turnCell_106 : decode cX3_turnCell 106 = .ok (.invokestatic 79, 3) := by decide +kernel
theorem dX3_turnCell_109 : decode cX3_turnCell 109 = .ok (.aload_n 1, 1) := by decide +kernel
theorem dX3_turnCell_110 : decode cX3_turnCell 110 = .ok (.iload_n 2, 1) := by decide +kernel
theorem dX3_turnCell_111 : decode cX3_turnCell 111 = .ok (.iload_n 3, 1) := by decide +kernel
theorem dX3_turnCell_112 : decode cX3_turnCell 112 = .ok (.invokevirtual 94, 3) := by decide +kernel
theorem dX3_turnCell_115 : decode cX3_turnCell 115 = .ok (.invokevirtual 72, 3) := by decide +kernel
theorem dX3_turnCell_118 : decode cX3_turnCell 118 = .ok (.return_, 1) := by decide +kernel
def LX3_turnCell_16 {ρ : Type} (T : zT) (x2 : Nat) (x3 : Nat) (x4 : Int32) (x5 : Int32) (x6 : Int32) (x7 : Int32) (K0 : zH → Option ρ) : Nat → Int32 → zH → Option ρ
  | 0, _, _ => none
  | k + 1, x8, h9 => (FX3_marksIn T x3 x4 x5 h9).bind fun x11 => if x11 ≤ x8 then (K0 h9) else ((FX6_placeOf T x4 x5 x8 h9).bind fun x13 => (zgr h9 x3 3 10).bind fun x14 => (FX1_at T x14 x13 h9).bind fun x16 => (FX6_placeOf T x6 x7 x8 h9).bind fun x18 => (zgr h9 x3 3 8).bind fun x19 => (FX1_at T x19 x13 h9).bind fun x21 => (zgr h9 x3 3 9).bind fun x22 => (FX1_at T x22 x13 h9).bind fun x24 => (zgr h9 x3 3 11).bind fun x25 => (FX1_at T x25 x13 h9).bind fun x27 => (FX3_putMark T x2 x18 x21 x24 (8 - x16) x27 h9).bind fun h29 => LX3_turnCell_16 T x2 x3 x4 x5 x6 x7 K0 k (x8 + 1) h29)
set_option maxHeartbeats 4000000 in
set_option maxRecDepth 100000 in
theorem LX3_turnCell_16_ok {X : zX} (C : zC X cX3_turnCell 9 RX3 "turnCell" none 2 47) {Z : State → Prop} {al : Bool} {hi : Nat} {ρ : Type} {r9 : ρ} {x2 : Nat} {x3 : Nat} {x4 : Int32} {x5 : Int32} {x6 : Int32} {x7 : Int32} {K0 : zH → Option ρ} (hK0 : ∀ (g9 : zH), K0 g9 = some r9 → zW X 9 Z 0 0 al hi g9 98 [(0, .ref x2), (1, .ref x3), (2, .int x4), (3, .int x5), (4, .int x6), (5, .int x7)] []) : ∀ (k : Nat) (x8 : Int32) (h9 : zH), LX3_turnCell_16 (xT X) x2 x3 x4 x5 x6 x7 K0 k x8 h9 = some r9 → zW X 9 Z 0 0 al hi h9 16 [(0, .ref x2), (1, .ref x3), (2, .int x4), (3, .int x5), (4, .int x6), (5, .int x7), (6, .int x8)] [] := by
  intro k
  induction k with
  | zero =>
    intro x8 h9 hf
    have hf : none = some r9 := hf
    cases hf
  | succ k ih =>
    intro x8 h9 hf
    rw [LX3_turnCell_16.eq_2] at hf
    refine z_iload C dX3_turnCell_16 6 rfl ?_
    refine z_aload_n C dX3_turnCell_18 1 rfl rfl ?_
    refine z_iload_n C dX3_turnCell_19 2 rfl rfl ?_
    refine z_iload_n C dX3_turnCell_20 3 rfl rfl ?_
    obtain ⟨x11, g10, hf⟩ := zbind hf
    refine z_callV (kc' := 0) (ks' := 0) C (MX3_marksIn (xl X) (xD X) (xT X) (xlo X) al hi g10) (OX3_marksIn g10) rfl cw_X3_94 yv_X3_marksIn dX3_turnCell_21 rfl (by decide) ⟨rfl, rfl⟩ (Nat.le_of_ble_eq_true rfl) (st := [.int x8]) rfl ?_
    refine z_icmp_ge (tgt := 98) C dX3_turnCell_24 (by decide) hf (fun hf => ?_) (fun hf => ?_)
    · refine z_sub [0, 1, 2, 3, 4, 5] rfl ?_
      exact hK0 _ hf
    · refine z_iload_n C dX3_turnCell_27 2 rfl rfl ?_
      refine z_iload_n C dX3_turnCell_28 3 rfl rfl ?_
      refine z_iload C dX3_turnCell_29 6 rfl ?_
      obtain ⟨x13, g12, hf⟩ := zbind hf
      refine z_callSN (kc' := 0) (ks' := 0) C (MX6_placeOf (xl X) (xD X) (xT X) (xlo X) al hi g12) cw_X3_97 nw_X3_97 mw_408 mw_26 ys_X6_placeOf dX3_turnCell_31 rfl (by decide) ⟨rfl, rfl⟩ (Nat.le_of_ble_eq_true rfl) (st := []) rfl ?_
      refine z_istore C dX3_turnCell_34 (by decide) (lv' := [(7, .int x13), (0, .ref x2), (1, .ref x3), (2, .int x4), (3, .int x5), (4, .int x6), (5, .int x7), (6, .int x8)]) rfl ?_
      refine z_bipush C (v := 8) dX3_turnCell_36 (by decide) ?_
      refine z_aload_n C dX3_turnCell_38 2 rfl rfl ?_
      refine z_getR C fl_X3_35 dX3_turnCell_39 hf (fun x14 hf => ?_)
      refine z_iload C dX3_turnCell_42 0 rfl ?_
      obtain ⟨x16, g15, hf⟩ := zbind hf
      refine z_callV (kc' := 0) (ks' := 0) C (MX1_at (xl X) (xD X) (xT X) (xlo X) al hi g15) (OX1_at g15) rfl cw_X3_83 yv_X1_at dX3_turnCell_44 rfl (by decide) ⟨rfl, rfl⟩ (Nat.le_of_ble_eq_true rfl) (st := [.int 8]) rfl ?_
      refine z_isub C dX3_turnCell_47 ?_
      refine z_istore C dX3_turnCell_48 (by decide) (lv' := [(8, .int (8 - x16)), (7, .int x13), (0, .ref x2), (1, .ref x3), (2, .int x4), (3, .int x5), (4, .int x6), (5, .int x7), (6, .int x8)]) rfl ?_
      refine z_aload_n C dX3_turnCell_50 2 rfl rfl ?_
      refine z_iload C dX3_turnCell_51 6 rfl ?_
      refine z_iload C dX3_turnCell_53 7 rfl ?_
      refine z_iload C dX3_turnCell_55 8 rfl ?_
      obtain ⟨x18, g17, hf⟩ := zbind hf
      refine z_callSN (kc' := 0) (ks' := 0) C (MX6_placeOf (xl X) (xD X) (xT X) (xlo X) al hi g17) cw_X3_97 nw_X3_97 mw_408 mw_26 ys_X6_placeOf dX3_turnCell_57 rfl (by decide) ⟨rfl, rfl⟩ (Nat.le_of_ble_eq_true rfl) (st := [.ref x2]) rfl ?_
      refine z_aload_n C dX3_turnCell_60 3 rfl rfl ?_
      refine z_getR C fl_X3_29 dX3_turnCell_61 hf (fun x19 hf => ?_)
      refine z_iload C dX3_turnCell_64 1 rfl ?_
      obtain ⟨x21, g20, hf⟩ := zbind hf
      refine z_callV (kc' := 0) (ks' := 0) C (MX1_at (xl X) (xD X) (xT X) (xlo X) al hi g20) (OX1_at g20) rfl cw_X3_83 yv_X1_at dX3_turnCell_66 rfl (by decide) ⟨rfl, rfl⟩ (Nat.le_of_ble_eq_true rfl) (st := [.int x18, .ref x2]) rfl ?_
      refine z_aload_n C dX3_turnCell_69 3 rfl rfl ?_
      refine z_getR C fl_X3_32 dX3_turnCell_70 hf (fun x22 hf => ?_)
      refine z_iload C dX3_turnCell_73 1 rfl ?_
      obtain ⟨x24, g23, hf⟩ := zbind hf
      refine z_callV (kc' := 0) (ks' := 0) C (MX1_at (xl X) (xD X) (xT X) (xlo X) al hi g23) (OX1_at g23) rfl cw_X3_83 yv_X1_at dX3_turnCell_75 rfl (by decide) ⟨rfl, rfl⟩ (Nat.le_of_ble_eq_true rfl) (st := [.int x21, .int x18, .ref x2]) rfl ?_
      refine z_iload C dX3_turnCell_78 0 rfl ?_
      refine z_aload_n C dX3_turnCell_80 3 rfl rfl ?_
      refine z_getR C fl_X3_38 dX3_turnCell_81 hf (fun x25 hf => ?_)
      refine z_iload C dX3_turnCell_84 1 rfl ?_
      obtain ⟨x27, g26, hf⟩ := zbind hf
      refine z_callV (kc' := 0) (ks' := 0) C (MX1_at (xl X) (xD X) (xT X) (xlo X) al hi g26) (OX1_at g26) rfl cw_X3_83 yv_X1_at dX3_turnCell_86 rfl (by decide) ⟨rfl, rfl⟩ (Nat.le_of_ble_eq_true rfl) (st := [.int (8 - x16), .int x24, .int x21, .int x18, .ref x2]) rfl ?_
      obtain ⟨h29, g28, hf⟩ := zbind hf
      refine z_callV (kc' := 0) (ks' := 0) C (MX3_putMark (xl X) (xD X) (xT X) (xlo X) al hi g28) (OX3_putMark g28) rfl cw_X3_101 yv_X3_putMark dX3_turnCell_89 rfl (by decide) ⟨rfl, rfl⟩ (Nat.le_of_ble_eq_true rfl) (st := []) rfl ?_
      refine z_iinc C dX3_turnCell_92 (k := 8) (d := 1) rfl (by decide) (by decide) (lv' := [(6, .int (x8 + 1)), (8, .int (8 - x16)), (7, .int x13), (0, .ref x2), (1, .ref x3), (2, .int x4), (3, .int x5), (4, .int x6), (5, .int x7)]) rfl ?_
      refine z_goto (tgt := 16) C dX3_turnCell_95 (by decide) ?_
      refine z_sub [3, 4, 5, 6, 7, 8, 0] rfl ?_
      exact ih _ _ hf
def FX3_turnCell (T : zT) (a0 : Nat) (p0 : Nat) (p1 : Int32) (p2 : Int32) (h : zH) : Option zH := (zo h a0 3).bind fun _ => (zgi h p0 3 1).bind fun x1 => LX3_turnCell_16 T a0 p0 p1 p2 ((x1 - 1) - p2) p1 (fun (h30 : zH) => (zgr h30 a0 3 7).bind fun x31 => (FX6_cellOf T ((x1 - 1) - p2) p1 h30).bind fun x33 => (FX3_marksIn T p0 p1 p2 h30).bind fun x35 => (FX1_put T x31 x33 x35 h30).bind fun h37 => some h37) FUEL 0 h
set_option maxHeartbeats 4000000 in
set_option maxRecDepth 100000 in
theorem BX3_turnCell {X : zX} (C : zC X cX3_turnCell 9 RX3 "turnCell" none 2 47) {al : Bool} {hi : Nat} {h : zH} {a0 : Nat} {p0 : Nat} {p1 : Int32} {p2 : Int32} {r9 : zH} (hf : FX3_turnCell (xT X) a0 p0 p1 p2 h = some r9) : zW X 9 (zZ X al (none, hi, r9)) 0 0 al hi h 0 [(0, .ref a0), (1, .ref p0), (2, .int p1), (3, .int p2)] [] := by
  unfold FX3_turnCell at hf
  obtain ⟨_, _, hf⟩ := zbind hf
  refine z_aload_n C dX3_turnCell_0 1 rfl rfl ?_
  refine z_getI C fl_X3_65 dX3_turnCell_1 hf (fun x1 hf => ?_)
  refine z_iconst C (v := 1) dX3_turnCell_4 (by decide) ?_
  refine z_isub C dX3_turnCell_5 ?_
  refine z_iload_n C dX3_turnCell_6 3 rfl rfl ?_
  refine z_isub C dX3_turnCell_7 ?_
  refine z_istore C dX3_turnCell_8 (by decide) (lv' := [(4, .int ((x1 - 1) - p2)), (0, .ref a0), (1, .ref p0), (2, .int p1), (3, .int p2)]) rfl ?_
  refine z_iload_n C dX3_turnCell_10 3 rfl rfl ?_
  refine z_istore C dX3_turnCell_11 (by decide) (lv' := [(5, .int p1), (4, .int ((x1 - 1) - p2)), (0, .ref a0), (1, .ref p0), (2, .int p1), (3, .int p2)]) rfl ?_
  refine z_iconst C (v := 0) dX3_turnCell_13 (by decide) ?_
  refine z_istore C dX3_turnCell_14 (by decide) (lv' := [(6, .int 0), (5, .int p1), (4, .int ((x1 - 1) - p2)), (0, .ref a0), (1, .ref p0), (2, .int p1), (3, .int p2)]) rfl ?_
  refine z_sub [3, 4, 5, 6, 2, 1, 0] rfl ?_
  refine LX3_turnCell_16_ok C ?_ FUEL _ _ hf
  · intro h30 hf
    refine z_aload_n C dX3_turnCell_98 0 rfl rfl ?_
    refine z_getR C fl_X3_26 dX3_turnCell_99 hf (fun x31 hf => ?_)
    refine z_iload C dX3_turnCell_102 4 rfl ?_
    refine z_iload C dX3_turnCell_104 5 rfl ?_
    obtain ⟨x33, g32, hf⟩ := zbind hf
    refine z_callSN (kc' := 0) (ks' := 0) C (MX6_cellOf (xl X) (xD X) (xT X) (xlo X) al hi g32) cw_X3_79 nw_X3_79 mw_393 mw_26 ys_X6_cellOf dX3_turnCell_106 rfl (by decide) ⟨rfl, rfl⟩ (Nat.le_of_ble_eq_true rfl) (st := [.ref x31]) rfl ?_
    refine z_aload_n C dX3_turnCell_109 1 rfl rfl ?_
    refine z_iload_n C dX3_turnCell_110 2 rfl rfl ?_
    refine z_iload_n C dX3_turnCell_111 3 rfl rfl ?_
    obtain ⟨x35, g34, hf⟩ := zbind hf
    refine z_callV (kc' := 0) (ks' := 0) C (MX3_marksIn (xl X) (xD X) (xT X) (xlo X) al hi g34) (OX3_marksIn g34) rfl cw_X3_94 yv_X3_marksIn dX3_turnCell_112 rfl (by decide) ⟨rfl, rfl⟩ (Nat.le_of_ble_eq_true rfl) (st := [.int x33, .ref x31]) rfl ?_
    obtain ⟨h37, g36, hf⟩ := zbind hf
    refine z_callV (kc' := 0) (ks' := 0) C (MX1_put (xl X) (xD X) (xT X) (xlo X) al hi g36) (OX1_put g36) rfl cw_X3_72 yv_X1_put dX3_turnCell_115 rfl (by decide) ⟨rfl, rfl⟩ (Nat.le_of_ble_eq_true rfl) (st := []) rfl ?_
    exact z_vreturn C dX3_turnCell_118 (by cases hf; rfl)
theorem MX3_turnCell (l : Launch) (D : va_G) (T : zT) (lo : Nat) (al : Bool) (hi : Nat) {h : zH} {a0 : Nat} {p0 : Nat} {p1 : Int32} {p2 : Int32} {h9 : zH} (hf : FX3_turnCell T a0 p0 p1 p2 h = some h9) : zM l yX3_turnCell (.code yX3_turnCell cX3_turnCell 9 none :: TW) ({ frames := 2, cells := 0, slots := 0, locals := 47 } : Room) D T lo al [.ref a0, .ref p0, .int p1, .int p2] hi h (none, hi, h9) :=
  z_enter (own := RX3) (nm := "turnCell") (lv := [(0, .ref a0), (1, .ref p0), (2, .int p1), (3, .int p2)]) (by decide +kernel) rfl rfl (Nat.le_of_ble_eq_true rfl) rfl (fun _ _ _ _ _ _ _ _ C => BX3_turnCell C hf)
theorem OX3_turnCell {T : zT} {h : zH} {a0 : Nat} {p0 : Nat} {p1 : Int32} {p2 : Int32} {r9 : zH} (hf : FX3_turnCell T a0 p0 p1 p2 h = some r9) : ∃ fs, h a0 = some (.inr (3, fs)) := by
  obtain ⟨_, h1, _⟩ := zbind hf
  exact zo_obj h1
theorem dX3_turnByQuarter_0 : decode cX3_turnByQuarter 0 = .ok (.aload_n 1, 1) := by decide +kernel
theorem dX3_turnByQuarter_1 : decode cX3_turnByQuarter 1 = .ok (.aload_n 0, 1) := by decide +kernel
theorem dX3_turnByQuarter_2 : decode cX3_turnByQuarter 2 = .ok (.invokevirtual 122, 3) := by decide +kernel
theorem dX3_turnByQuarter_5 : decode cX3_turnByQuarter 5 = .ok (.aload_n 0, 1) := by decide +kernel
theorem dX3_turnByQuarter_6 : decode cX3_turnByQuarter 6 = .ok (.aload_n 1, 1) := by decide +kernel
theorem dX3_turnByQuarter_7 : decode cX3_turnByQuarter 7 = .ok (.getfield 65, 3) := by decide +kernel
theorem dX3_turnByQuarter_10 : decode cX3_turnByQuarter 10 = .ok (.aload_n 1, 1) := by decide +kernel
theorem dX3_turnByQuarter_11 : decode cX3_turnByQuarter 11 = .ok (.getfield 62, 3) := by decide +kernel
theorem dX3_turnByQuarter_14 : decode cX3_turnByQuarter 14 = .ok (.invokevirtual 44, 3) := by decide +kernel
theorem dX3_turnByQuarter_17 : decode cX3_turnByQuarter 17 = .ok (.aload_n 0, 1) := by decide +kernel
theorem dX3_turnByQuarter_18 : decode cX3_turnByQuarter 18 = .ok (.getfield 26, 3) := by decide +kernel
theorem dX3_turnByQuarter_21 : decode cX3_turnByQuarter 21 = .ok (.iconst 0, 1) := by decide +kernel
theorem dX3_turnByQuarter_22 : decode cX3_turnByQuarter 22 = .ok (.invokevirtual 59, 3) := by decide +kernel
theorem dX3_turnByQuarter_25 : decode cX3_turnByQuarter 25 = .ok (.iconst 0, 1) := by decide +kernel
theorem dX3_turnByQuarter_26 : decode cX3_turnByQuarter 26 = .ok (.istore_n 2, 1) := by decide +kernel
theorem dX3_turnByQuarter_27 : decode cX3_turnByQuarter 27 = .ok (.iload_n 2, 1) := by decide +kernel
theorem dX3_turnByQuarter_28 : decode cX3_turnByQuarter 28 = .ok (.aload_n 1, 1) := by decide +kernel
theorem dX3_turnByQuarter_29 : decode cX3_turnByQuarter 29 = .ok (.getfield 62, 3) := by decide +kernel
theorem dX3_turnByQuarter_32 : decode cX3_turnByQuarter 32 = .ok (.if_icmp .ge 32, 3) := by decide +kernel
theorem dX3_turnByQuarter_35 : decode cX3_turnByQuarter 35 = .ok (.iconst 0, 1) := by decide +kernel
theorem dX3_turnByQuarter_36 : decode cX3_turnByQuarter 36 = .ok (.istore_n 3, 1) := by decide +kernel
theorem dX3_turnByQuarter_37 : decode cX3_turnByQuarter 37 = .ok (.iload_n 3, 1) := by decide +kernel
theorem dX3_turnByQuarter_38 : decode cX3_turnByQuarter 38 = .ok (.aload_n 1, 1) := by decide +kernel
theorem dX3_turnByQuarter_39 : decode cX3_turnByQuarter 39 = .ok (.getfield 65, 3) := by decide +kernel
theorem dX3_turnByQuarter_42 : decode cX3_turnByQuarter 42 = .ok (.if_icmp .ge 16, 3) := by decide +kernel
theorem dX3_turnByQuarter_45 : decode cX3_turnByQuarter 45 = .ok (.aload_n 0, 1) := by decide +kernel
theorem dX3_turnByQuarter_46 : decode cX3_turnByQuarter 46 = .ok (.aload_n 1, 1) := by decide +kernel
theorem dX3_turnByQuarter_47 : decode cX3_turnByQuarter 47 = .ok (.iload_n 2, 1) := by decide +kernel
theorem dX3_turnByQuarter_48 : decode cX3_turnByQuarter 48 = .ok (.iload_n 3, 1) := by decide +kernel
theorem dX3_turnByQuarter_49 : decode cX3_turnByQuarter 49 = .ok (.invokevirtual 125, 3) := by decide +kernel
theorem dX3_turnByQuarter_52 : decode cX3_turnByQuarter 52 = .ok (.iinc 3 1, 3) := by decide +kernel
theorem dX3_turnByQuarter_55 : decode cX3_turnByQuarter 55 = .ok (.goto (-18), 3) := by decide +kernel
theorem dX3_turnByQuarter_58 : decode cX3_turnByQuarter 58 = .ok (.iinc 2 1, 3) := by decide +kernel
theorem dX3_turnByQuarter_61 : decode cX3_turnByQuarter 61 = .ok (.goto (-34), 3) := by decide +kernel
theorem dX3_turnByQuarter_64 : decode cX3_turnByQuarter 64 = .ok (.iconst 0, 1) := by decide +kernel
theorem dX3_turnByQuarter_65 : decode cX3_turnByQuarter 65 = .ok (.istore_n 2, 1) := by decide +kernel
theorem dX3_turnByQuarter_66 : decode cX3_turnByQuarter 66 = .ok (.iload_n 2, 1) := by decide +kernel
theorem dX3_turnByQuarter_67 : decode cX3_turnByQuarter 67 = .ok (.iconst 2, 1) := by decide +kernel
theorem dX3_turnByQuarter_68 : decode cX3_turnByQuarter 68 = .ok (.if_icmp .ge 46, 3) := by decide +kernel
theorem dX3_turnByQuarter_71 : decode cX3_turnByQuarter 71 = .ok (.aload_n 0, 1) := by decide +kernel
theorem dX3_turnByQuarter_72 : decode cX3_turnByQuarter 72 = .ok (.getfield 20, 3) := by decide +kernel
theorem dX3_turnByQuarter_75 : decode cX3_turnByQuarter 75 = .ok (.iload_n 2, 1) := by decide +kernel
theorem dX3_turnByQuarter_76 : decode cX3_turnByQuarter 76 = .ok (.bipush 8, 2) := by decide +kernel
theorem dX3_turnByQuarter_78 : decode cX3_turnByQuarter 78 = .ok (.aload_n 0, 1) := by decide +kernel
theorem dX3_turnByQuarter_79 : decode cX3_turnByQuarter 79 = .ok (.getfield 20, 3) := by decide +kernel
theorem dX3_turnByQuarter_82 : decode cX3_turnByQuarter 82 = .ok (.iload_n 2, 1) := by decide +kernel
theorem dX3_turnByQuarter_83 : decode cX3_turnByQuarter 83 = .ok (.invokevirtual 83, 3) := by decide +kernel
theorem dX3_turnByQuarter_86 : decode cX3_turnByQuarter 86 = .ok (.isub, 1) := by decide +kernel
theorem dX3_turnByQuarter_87 : decode cX3_turnByQuarter 87 = .ok (.invokevirtual 72, 3) := by decide +kernel
theorem dX3_turnByQuarter_90 : decode cX3_turnByQuarter 90 = .ok (.aload_n 0, 1) := by decide +kernel
theorem dX3_turnByQuarter_91 : decode cX3_turnByQuarter 91 = .ok (.getfield 23, 3) := by decide +kernel
theorem dX3_turnByQuarter_94 : decode cX3_turnByQuarter 94 = .ok (.iload_n 2, 1) := by decide +kernel
theorem dX3_turnByQuarter_95 : decode cX3_turnByQuarter 95 = .ok (.iconst 1, 1) := by decide +kernel
theorem dX3_turnByQuarter_96 : decode cX3_turnByQuarter 96 = .ok (.aload_n 0, 1) := by decide +kernel
theorem dX3_turnByQuarter_97 : decode cX3_turnByQuarter 97 = .ok (.getfield 23, 3) := by decide +kernel
theorem dX3_turnByQuarter_100 : decode cX3_turnByQuarter 100 = .ok (.iload_n 2, 1) := by decide +kernel
theorem dX3_turnByQuarter_101 : decode cX3_turnByQuarter 101 = .ok (.invokevirtual 83, 3) := by decide +kernel
theorem dX3_turnByQuarter_104 : decode cX3_turnByQuarter 104 = .ok (.isub, 1) := by decide +kernel
theorem dX3_turnByQuarter_105 : decode cX3_turnByQuarter 105 = .ok (.invokevirtual 72, 3) := by decide +kernel
theorem dX3_turnByQuarter_108 : decode cX3_turnByQuarter 108 = .ok (.iinc 2 1, 3) := by decide +kernel
theorem dX3_turnByQuarter_111 : decode cX3_turnByQuarter 111 = .ok (.goto (-45), 3) := by decide +kernel
theorem dX3_turnByQuarter_114 : decode cX3_turnByQuarter 114 = .ok (.return_, 1) := by decide +kernel
def LX3_turnByQuarter_37 {ρ : Type} (T : zT) (x15 : Nat) (x16 : Nat) (x17 : Int32) (K0 : zH → Option ρ) : Nat → Int32 → zH → Option ρ
  | 0, _, _ => none
  | k + 1, x18, h19 => (zgi h19 x16 3 1).bind fun x20 => if x20 ≤ x18 then (K0 h19) else ((FX3_turnCell T x15 x16 x17 x18 h19).bind fun h22 => LX3_turnByQuarter_37 T x15 x16 x17 K0 k (x18 + 1) h22)
set_option maxHeartbeats 4000000 in
set_option maxRecDepth 100000 in
theorem LX3_turnByQuarter_37_ok {X : zX} (C : zC X cX3_turnByQuarter 4 RX3 "turnByQuarter" none 3 75) {Z : State → Prop} {hi : Nat} {ρ : Type} {r9 : ρ} {x15 : Nat} {x16 : Nat} {x17 : Int32} {K0 : zH → Option ρ} (hK0 : ∀ (g9 : zH), K0 g9 = some r9 → zW X 4 Z 0 0 false hi g9 58 [(0, .ref x15), (1, .ref x16), (2, .int x17)] []) : ∀ (k : Nat) (x18 : Int32) (h19 : zH), LX3_turnByQuarter_37 (xT X) x15 x16 x17 K0 k x18 h19 = some r9 → zW X 4 Z 0 0 false hi h19 37 [(0, .ref x15), (1, .ref x16), (2, .int x17), (3, .int x18)] [] := by
  intro k
  induction k with
  | zero =>
    intro x18 h19 hf
    have hf : none = some r9 := hf
    cases hf
  | succ k ih =>
    intro x18 h19 hf
    rw [LX3_turnByQuarter_37.eq_2] at hf
    refine z_iload_n C dX3_turnByQuarter_37 3 rfl rfl ?_
    refine z_aload_n C dX3_turnByQuarter_38 1 rfl rfl ?_
    refine z_getI C fl_X3_65 dX3_turnByQuarter_39 hf (fun x20 hf => ?_)
    refine z_icmp_ge (tgt := 58) C dX3_turnByQuarter_42 (by decide) hf (fun hf => ?_) (fun hf => ?_)
    · refine z_sub [0, 1, 2] rfl ?_
      exact hK0 _ hf
    · refine z_aload_n C dX3_turnByQuarter_45 0 rfl rfl ?_
      refine z_aload_n C dX3_turnByQuarter_46 1 rfl rfl ?_
      refine z_iload_n C dX3_turnByQuarter_47 2 rfl rfl ?_
      refine z_iload_n C dX3_turnByQuarter_48 3 rfl rfl ?_
      obtain ⟨h22, g21, hf⟩ := zbind hf
      refine z_callV (kc' := 0) (ks' := 0) C (MX3_turnCell (xl X) (xD X) (xT X) (xlo X) false hi g21) (OX3_turnCell g21) rfl cw_X3_125 yv_X3_turnCell dX3_turnByQuarter_49 rfl (by decide) ⟨rfl, rfl⟩ (Nat.le_of_ble_eq_true rfl) (st := []) rfl ?_
      refine z_iinc C dX3_turnByQuarter_52 (k := 3) (d := 1) rfl (by decide) (by decide) (lv' := [(3, .int (x18 + 1)), (0, .ref x15), (1, .ref x16), (2, .int x17)]) rfl ?_
      refine z_goto (tgt := 37) C dX3_turnByQuarter_55 (by decide) ?_
      refine z_sub [1, 2, 3, 0] rfl ?_
      exact ih _ _ hf
def LX3_turnByQuarter_27 {ρ : Type} (T : zT) (x10 : Nat) (x11 : Nat) (K0 : zH → Option ρ) : Nat → Int32 → zH → Option ρ
  | 0, _, _ => none
  | k + 1, x12, h13 => (zgi h13 x11 3 0).bind fun x14 => if x14 ≤ x12 then (K0 h13) else (LX3_turnByQuarter_37 T x10 x11 x12 (fun (h23 : zH) => LX3_turnByQuarter_27 T x10 x11 K0 k (x12 + 1) h23) FUEL 0 h13)
set_option maxHeartbeats 4000000 in
set_option maxRecDepth 100000 in
theorem LX3_turnByQuarter_27_ok {X : zX} (C : zC X cX3_turnByQuarter 4 RX3 "turnByQuarter" none 3 75) {Z : State → Prop} {hi : Nat} {ρ : Type} {r9 : ρ} {x10 : Nat} {x11 : Nat} {K0 : zH → Option ρ} (hK0 : ∀ (g9 : zH), K0 g9 = some r9 → zW X 4 Z 0 0 false hi g9 64 [(0, .ref x10)] []) : ∀ (k : Nat) (x12 : Int32) (h13 : zH), LX3_turnByQuarter_27 (xT X) x10 x11 K0 k x12 h13 = some r9 → zW X 4 Z 0 0 false hi h13 27 [(0, .ref x10), (1, .ref x11), (2, .int x12)] [] := by
  intro k
  induction k with
  | zero =>
    intro x12 h13 hf
    have hf : none = some r9 := hf
    cases hf
  | succ k ih =>
    intro x12 h13 hf
    rw [LX3_turnByQuarter_27.eq_2] at hf
    refine z_iload_n C dX3_turnByQuarter_27 2 rfl rfl ?_
    refine z_aload_n C dX3_turnByQuarter_28 1 rfl rfl ?_
    refine z_getI C fl_X3_62 dX3_turnByQuarter_29 hf (fun x14 hf => ?_)
    refine z_icmp_ge (tgt := 64) C dX3_turnByQuarter_32 (by decide) hf (fun hf => ?_) (fun hf => ?_)
    · refine z_sub [0] rfl ?_
      exact hK0 _ hf
    · refine z_iconst C (v := 0) dX3_turnByQuarter_35 (by decide) ?_
      refine z_istore_n C dX3_turnByQuarter_36 rfl (by decide) (lv' := [(3, .int 0), (0, .ref x10), (1, .ref x11), (2, .int x12)]) rfl ?_
      refine z_sub [1, 2, 3, 0] rfl ?_
      refine LX3_turnByQuarter_37_ok C ?_ FUEL _ _ hf
      · intro h23 hf
        refine z_iinc C dX3_turnByQuarter_58 (k := 2) (d := 1) rfl (by decide) (by decide) (lv' := [(2, .int (x12 + 1)), (0, .ref x10), (1, .ref x11)]) rfl ?_
        refine z_goto (tgt := 27) C dX3_turnByQuarter_61 (by decide) ?_
        refine z_sub [1, 2, 0] rfl ?_
        exact ih _ _ hf
def LX3_turnByQuarter_66 {ρ : Type} (T : zT) (x25 : Nat) (K0 : zH → Option ρ) : Nat → Int32 → zH → Option ρ
  | 0, _, _ => none
  | k + 1, x26, h27 => if 2 ≤ x26 then (K0 h27) else ((zgr h27 x25 3 5).bind fun x28 => (zgr h27 x25 3 5).bind fun x29 => (FX1_at T x29 x26 h27).bind fun x31 => (FX1_put T x28 x26 (8 - x31) h27).bind fun h33 => (zgr h33 x25 3 6).bind fun x34 => (zgr h33 x25 3 6).bind fun x35 => (FX1_at T x35 x26 h33).bind fun x37 => (FX1_put T x34 x26 (1 - x37) h33).bind fun h39 => LX3_turnByQuarter_66 T x25 K0 k (x26 + 1) h39)
set_option maxHeartbeats 4000000 in
set_option maxRecDepth 100000 in
theorem LX3_turnByQuarter_66_ok {X : zX} (C : zC X cX3_turnByQuarter 4 RX3 "turnByQuarter" none 3 75) {Z : State → Prop} {hi : Nat} {ρ : Type} {r9 : ρ} {x25 : Nat} {K0 : zH → Option ρ} (hK0 : ∀ (g9 : zH), K0 g9 = some r9 → zW X 4 Z 0 0 false hi g9 114 [] []) : ∀ (k : Nat) (x26 : Int32) (h27 : zH), LX3_turnByQuarter_66 (xT X) x25 K0 k x26 h27 = some r9 → zW X 4 Z 0 0 false hi h27 66 [(0, .ref x25), (2, .int x26)] [] := by
  intro k
  induction k with
  | zero =>
    intro x26 h27 hf
    have hf : none = some r9 := hf
    cases hf
  | succ k ih =>
    intro x26 h27 hf
    rw [LX3_turnByQuarter_66.eq_2] at hf
    refine z_iload_n C dX3_turnByQuarter_66 1 rfl rfl ?_
    refine z_iconst C (v := 2) dX3_turnByQuarter_67 (by decide) ?_
    refine z_icmp_ge (tgt := 114) C dX3_turnByQuarter_68 (by decide) hf (fun hf => ?_) (fun hf => ?_)
    · refine z_sub [] rfl ?_
      exact hK0 _ hf
    · refine z_aload_n C dX3_turnByQuarter_71 0 rfl rfl ?_
      refine z_getR C fl_X3_20 dX3_turnByQuarter_72 hf (fun x28 hf => ?_)
      refine z_iload_n C dX3_turnByQuarter_75 1 rfl rfl ?_
      refine z_bipush C (v := 8) dX3_turnByQuarter_76 (by decide) ?_
      refine z_aload_n C dX3_turnByQuarter_78 0 rfl rfl ?_
      refine z_getR C fl_X3_20 dX3_turnByQuarter_79 hf (fun x29 hf => ?_)
      refine z_iload_n C dX3_turnByQuarter_82 1 rfl rfl ?_
      obtain ⟨x31, g30, hf⟩ := zbind hf
      refine z_callV (kc' := 0) (ks' := 0) C (MX1_at (xl X) (xD X) (xT X) (xlo X) false hi g30) (OX1_at g30) rfl cw_X3_83 yv_X1_at dX3_turnByQuarter_83 rfl (by decide) ⟨rfl, rfl⟩ (Nat.le_of_ble_eq_true rfl) (st := [.int 8, .int x26, .ref x28]) rfl ?_
      refine z_isub C dX3_turnByQuarter_86 ?_
      obtain ⟨h33, g32, hf⟩ := zbind hf
      refine z_callV (kc' := 0) (ks' := 0) C (MX1_put (xl X) (xD X) (xT X) (xlo X) false hi g32) (OX1_put g32) rfl cw_X3_72 yv_X1_put dX3_turnByQuarter_87 rfl (by decide) ⟨rfl, rfl⟩ (Nat.le_of_ble_eq_true rfl) (st := []) rfl ?_
      refine z_aload_n C dX3_turnByQuarter_90 0 rfl rfl ?_
      refine z_getR C fl_X3_23 dX3_turnByQuarter_91 hf (fun x34 hf => ?_)
      refine z_iload_n C dX3_turnByQuarter_94 1 rfl rfl ?_
      refine z_iconst C (v := 1) dX3_turnByQuarter_95 (by decide) ?_
      refine z_aload_n C dX3_turnByQuarter_96 0 rfl rfl ?_
      refine z_getR C fl_X3_23 dX3_turnByQuarter_97 hf (fun x35 hf => ?_)
      refine z_iload_n C dX3_turnByQuarter_100 1 rfl rfl ?_
      obtain ⟨x37, g36, hf⟩ := zbind hf
      refine z_callV (kc' := 0) (ks' := 0) C (MX1_at (xl X) (xD X) (xT X) (xlo X) false hi g36) (OX1_at g36) rfl cw_X3_83 yv_X1_at dX3_turnByQuarter_101 rfl (by decide) ⟨rfl, rfl⟩ (Nat.le_of_ble_eq_true rfl) (st := [.int 1, .int x26, .ref x34]) rfl ?_
      refine z_isub C dX3_turnByQuarter_104 ?_
      obtain ⟨h39, g38, hf⟩ := zbind hf
      refine z_callV (kc' := 0) (ks' := 0) C (MX1_put (xl X) (xD X) (xT X) (xlo X) false hi g38) (OX1_put g38) rfl cw_X3_72 yv_X1_put dX3_turnByQuarter_105 rfl (by decide) ⟨rfl, rfl⟩ (Nat.le_of_ble_eq_true rfl) (st := []) rfl ?_
      refine z_iinc C dX3_turnByQuarter_108 (k := 1) (d := 1) rfl (by decide) (by decide) (lv' := [(2, .int (x26 + 1)), (0, .ref x25)]) rfl ?_
      refine z_goto (tgt := 66) C dX3_turnByQuarter_111 (by decide) ?_
      refine z_sub [1, 0] rfl ?_
      exact ih _ _ hf
def FX3_turnByQuarter (T : zT) (a0 : Nat) (p0 : Nat) (h : zH) : Option zH := (zo h a0 3).bind fun _ => (FX3_takeFrom T p0 a0 h).bind fun h2 => (zgi h2 p0 3 1).bind fun x3 => (zgi h2 p0 3 0).bind fun x4 => (FX3_putSize T a0 x3 x4 h2).bind fun h6 => (zgr h6 a0 3 7).bind fun x7 => (FX1_fill T x7 0 h6).bind fun h9 => LX3_turnByQuarter_27 T a0 p0 (fun (h24 : zH) => LX3_turnByQuarter_66 T a0 (fun (h40 : zH) => some h40) FUEL 0 h24) FUEL 0 h9
set_option maxHeartbeats 4000000 in
set_option maxRecDepth 100000 in
theorem BX3_turnByQuarter {X : zX} (C : zC X cX3_turnByQuarter 4 RX3 "turnByQuarter" none 3 75) {hi : Nat} {h : zH} {a0 : Nat} {p0 : Nat} {r9 : zH} (hf : FX3_turnByQuarter (xT X) a0 p0 h = some r9) : zW X 4 (zZ X false (none, hi, r9)) 0 0 false hi h 0 [(0, .ref a0), (1, .ref p0)] [] := by
  unfold FX3_turnByQuarter at hf
  obtain ⟨_, _, hf⟩ := zbind hf
  refine z_aload_n C dX3_turnByQuarter_0 1 rfl rfl ?_
  refine z_aload_n C dX3_turnByQuarter_1 0 rfl rfl ?_
  obtain ⟨h2, g1, hf⟩ := zbind hf
  refine z_callV (kc' := 0) (ks' := 0) C (MX3_takeFrom (xl X) (xD X) (xT X) (xlo X) hi g1) (OX3_takeFrom g1) rfl cw_X3_122 yv_X3_takeFrom dX3_turnByQuarter_2 rfl (by decide) ⟨rfl, rfl⟩ (Nat.le_of_ble_eq_true rfl) (st := []) rfl ?_
  refine z_aload_n C dX3_turnByQuarter_5 0 rfl rfl ?_
  refine z_aload_n C dX3_turnByQuarter_6 1 rfl rfl ?_
  refine z_getI C fl_X3_65 dX3_turnByQuarter_7 hf (fun x3 hf => ?_)
  refine z_aload_n C dX3_turnByQuarter_10 1 rfl rfl ?_
  refine z_getI C fl_X3_62 dX3_turnByQuarter_11 hf (fun x4 hf => ?_)
  obtain ⟨h6, g5, hf⟩ := zbind hf
  refine z_callV (kc' := 0) (ks' := 0) C (MX3_putSize (xl X) (xD X) (xT X) (xlo X) false hi g5) (OX3_putSize g5) rfl cw_X3_44 yv_X3_putSize dX3_turnByQuarter_14 rfl (by decide) ⟨rfl, rfl⟩ (Nat.le_of_ble_eq_true rfl) (st := []) rfl ?_
  refine z_aload_n C dX3_turnByQuarter_17 0 rfl rfl ?_
  refine z_getR C fl_X3_26 dX3_turnByQuarter_18 hf (fun x7 hf => ?_)
  refine z_iconst C (v := 0) dX3_turnByQuarter_21 (by decide) ?_
  obtain ⟨h9, g8, hf⟩ := zbind hf
  refine z_callV (kc' := 0) (ks' := 0) C (MX1_fill (xl X) (xD X) (xT X) (xlo X) false hi g8) (OX1_fill g8) rfl cw_X3_59 yv_X1_fill dX3_turnByQuarter_22 rfl (by decide) ⟨rfl, rfl⟩ (Nat.le_of_ble_eq_true rfl) (st := []) rfl ?_
  refine z_iconst C (v := 0) dX3_turnByQuarter_25 (by decide) ?_
  refine z_istore_n C dX3_turnByQuarter_26 rfl (by decide) (lv' := [(2, .int 0), (0, .ref a0), (1, .ref p0)]) rfl ?_
  refine z_sub [1, 2, 0] rfl ?_
  refine LX3_turnByQuarter_27_ok C ?_ FUEL _ _ hf
  · intro h24 hf
    refine z_iconst C (v := 0) dX3_turnByQuarter_64 (by decide) ?_
    refine z_istore_n C dX3_turnByQuarter_65 rfl (by decide) (lv' := [(2, .int 0), (0, .ref a0)]) rfl ?_
    refine z_sub [1, 0] rfl ?_
    refine LX3_turnByQuarter_66_ok C ?_ FUEL _ _ hf
    · intro h40 hf
      exact z_vreturn C dX3_turnByQuarter_114 (by cases hf; rfl)
theorem MX3_turnByQuarter (l : Launch) (D : va_G) (T : zT) (lo : Nat) (hi : Nat) {h : zH} {a0 : Nat} {p0 : Nat} {h9 : zH} (hf : FX3_turnByQuarter T a0 p0 h = some h9) : zM l yX3_turnByQuarter (.code yX3_turnByQuarter cX3_turnByQuarter 4 none :: TW) ({ frames := 3, cells := 0, slots := 0, locals := 75 } : Room) D T lo false [.ref a0, .ref p0] hi h (none, hi, h9) :=
  z_enter (own := RX3) (nm := "turnByQuarter") (lv := [(0, .ref a0), (1, .ref p0)]) (by decide +kernel) rfl rfl (Nat.le_of_ble_eq_true rfl) rfl (fun _ _ _ _ _ _ _ _ C => BX3_turnByQuarter C hf)
theorem OX3_turnByQuarter {T : zT} {h : zH} {a0 : Nat} {p0 : Nat} {r9 : zH} (hf : FX3_turnByQuarter T a0 p0 h = some r9) : ∃ fs, h a0 = some (.inr (3, fs)) := by
  obtain ⟨_, h1, _⟩ := zbind hf
  exact zo_obj h1
theorem dX3_distance_0 : decode cX3_distance 0 = .ok (.iconst 3, 1) := by decide +kernel
theorem dX3_distance_1 : decode cX3_distance 1 = .ok (.aload_n 0, 1) := by decide +kernel
theorem dX3_distance_2 : decode cX3_distance 2 = .ok (.getfield 32, 3) := by decide +kernel
theorem dX3_distance_5 : decode cX3_distance 5 = .ok (.iload_n 1, 1) := by decide +kernel
theorem dX3_distance_6 : decode cX3_distance 6 = .ok (.invokevirtual 83, 3) := by decide +kernel
theorem dX3_distance_9 : decode cX3_distance 9 = .ok (.aload_n 0, 1) := by decide +kernel
theorem dX3_distance_10 : decode cX3_distance 10 = .ok (.getfield 14, 3) := by decide +kernel
theorem dX3_distance_13 : decode cX3_distance 13 = .ok (.iload_n 2, 1) := by decide +kernel
theorem dX3_distance_14 : decode cX3_distance 14 = .ok (.invokevirtual 83, 3) := by decide +kernel
theorem dX3_distance_17 : decode cX3_distance 17 = .ok (.isub, 1) := by decide +kernel
theorem dX3_distance_18 : decode cX3_distance 18 = .ok (.invokestatic 129, 3) := by decide +kernel
theorem dX3_distance_21 : decode cX3_distance 21 = .ok (.imul, 1) := by decide +kernel
theorem dX3_distance_22 : decode cX3_distance 22 = .ok (.aload_n 0, 1) := by decide +kernel
theorem dX3_distance_23 : decode cX3_distance 23 = .ok (.getfield 35, 3) := by decide +kernel
theorem dX3_distance_26 : decode cX3_distance 26 = .ok (.iload_n 1, 1) := by decide +kernel
theorem dX3_distance_27 : decode cX3_distance 27 = .ok (.invokevirtual 83, 3) := by decide +kernel
theorem dX3_distance_30 : decode cX3_distance 30 = .ok (.aload_n 0, 1) := by decide +kernel
theorem dX3_distance_31 : decode cX3_distance 31 = .ok (.getfield 20, 3) := by decide +kernel
theorem dX3_distance_34 : decode cX3_distance 34 = .ok (.iload_n 2, 1) := by decide +kernel
theorem dX3_distance_35 : decode cX3_distance 35 = .ok (.invokevirtual 83, 3) := by decide +kernel
theorem dX3_distance_38 : decode cX3_distance 38 = .ok (.isub, 1) := by decide +kernel
theorem dX3_distance_39 : decode cX3_distance 39 = .ok (.invokestatic 129, 3) := by decide +kernel
theorem dX3_distance_42 : decode cX3_distance 42 = .ok (.iadd, 1) := by decide +kernel
theorem dX3_distance_43 : decode cX3_distance 43 = .ok (.ireturn, 1) := by decide +kernel
def FX3_distance (T : zT) (a0 : Nat) (p0 : Int32) (p1 : Int32) (h : zH) : Option Int32 := (zo h a0 3).bind fun _ => (zgr h a0 3 9).bind fun x1 => (FX1_at T x1 p0 h).bind fun x3 => (zgr h a0 3 4).bind fun x4 => (FX1_at T x4 p1 h).bind fun x6 => (zgr h a0 3 10).bind fun x7 => (FX1_at T x7 p0 h).bind fun x9 => (zgr h a0 3 5).bind fun x10 => (FX1_at T x10 p1 h).bind fun x12 => some ((3 * (if 0 ≤ (x3 - x6) then (x3 - x6) else 0 - (x3 - x6))) + (if 0 ≤ (x9 - x12) then (x9 - x12) else 0 - (x9 - x12)))
set_option maxHeartbeats 4000000 in
set_option maxRecDepth 100000 in
theorem BX3_distance {X : zX} (C : zC X cX3_distance 3 RX3 "distance" (some .int) 1 21) {al : Bool} {hi : Nat} {h : zH} {a0 : Nat} {p0 : Int32} {p1 : Int32} {r9 : Int32} (hf : FX3_distance (xT X) a0 p0 p1 h = some r9) : zW X 3 (zZ X al (some (.int r9), hi, h)) 0 0 al hi h 0 [(0, .ref a0), (1, .int p0), (2, .int p1)] [] := by
  unfold FX3_distance at hf
  obtain ⟨_, _, hf⟩ := zbind hf
  refine z_iconst C (v := 3) dX3_distance_0 (by decide) ?_
  refine z_aload_n C dX3_distance_1 0 rfl rfl ?_
  refine z_getR C fl_X3_32 dX3_distance_2 hf (fun x1 hf => ?_)
  refine z_iload_n C dX3_distance_5 1 rfl rfl ?_
  obtain ⟨x3, g2, hf⟩ := zbind hf
  refine z_callV (kc' := 0) (ks' := 0) C (MX1_at (xl X) (xD X) (xT X) (xlo X) al hi g2) (OX1_at g2) rfl cw_X3_83 yv_X1_at dX3_distance_6 rfl (by decide) ⟨rfl, rfl⟩ (Nat.le_of_ble_eq_true rfl) (st := [.int 3]) rfl ?_
  refine z_aload_n C dX3_distance_9 0 rfl rfl ?_
  refine z_getR C fl_X3_14 dX3_distance_10 hf (fun x4 hf => ?_)
  refine z_iload_n C dX3_distance_13 2 rfl rfl ?_
  obtain ⟨x6, g5, hf⟩ := zbind hf
  refine z_callV (kc' := 0) (ks' := 0) C (MX1_at (xl X) (xD X) (xT X) (xlo X) al hi g5) (OX1_at g5) rfl cw_X3_83 yv_X1_at dX3_distance_14 rfl (by decide) ⟨rfl, rfl⟩ (Nat.le_of_ble_eq_true rfl) (st := [.int x3, .int 3]) rfl ?_
  refine z_isub C dX3_distance_17 ?_
  refine z_abs C mw_447 mw_abss mw_mathi mw_absc dX3_distance_18 ⟨Nat.le_of_ble_eq_true rfl, Nat.le_of_ble_eq_true rfl⟩ ?_
  refine z_imul C dX3_distance_21 ?_
  refine z_aload_n C dX3_distance_22 0 rfl rfl ?_
  refine z_getR C fl_X3_35 dX3_distance_23 hf (fun x7 hf => ?_)
  refine z_iload_n C dX3_distance_26 1 rfl rfl ?_
  obtain ⟨x9, g8, hf⟩ := zbind hf
  refine z_callV (kc' := 0) (ks' := 0) C (MX1_at (xl X) (xD X) (xT X) (xlo X) al hi g8) (OX1_at g8) rfl cw_X3_83 yv_X1_at dX3_distance_27 rfl (by decide) ⟨rfl, rfl⟩ (Nat.le_of_ble_eq_true rfl) (st := [.int (3 * (if 0 ≤ (x3 - x6) then (x3 - x6) else 0 - (x3 - x6)))]) rfl ?_
  refine z_aload_n C dX3_distance_30 0 rfl rfl ?_
  refine z_getR C fl_X3_20 dX3_distance_31 hf (fun x10 hf => ?_)
  refine z_iload_n C dX3_distance_34 2 rfl rfl ?_
  obtain ⟨x12, g11, hf⟩ := zbind hf
  refine z_callV (kc' := 0) (ks' := 0) C (MX1_at (xl X) (xD X) (xT X) (xlo X) al hi g11) (OX1_at g11) rfl cw_X3_83 yv_X1_at dX3_distance_35 rfl (by decide) ⟨rfl, rfl⟩ (Nat.le_of_ble_eq_true rfl) (st := [.int x9, .int (3 * (if 0 ≤ (x3 - x6) then (x3 - x6) else 0 - (x3 - x6)))]) rfl ?_
  refine z_isub C dX3_distance_38 ?_
  refine z_abs C mw_447 mw_abss mw_mathi mw_absc dX3_distance_39 ⟨Nat.le_of_ble_eq_true rfl, Nat.le_of_ble_eq_true rfl⟩ ?_
  refine z_iadd C dX3_distance_42 ?_
  exact z_ireturn C dX3_distance_43 (by cases hf; rfl)
theorem MX3_distance (l : Launch) (D : va_G) (T : zT) (lo : Nat) (al : Bool) (hi : Nat) {h : zH} {a0 : Nat} {p0 : Int32} {p1 : Int32} {v9 : Int32} (hf : FX3_distance T a0 p0 p1 h = some v9) : zM l yX3_distance (.code yX3_distance cX3_distance 3 (some .int) :: TW) ({ frames := 1, cells := 0, slots := 0, locals := 21 } : Room) D T lo al [.ref a0, .int p0, .int p1] hi h (some (.int v9), hi, h) :=
  z_enter (own := RX3) (nm := "distance") (lv := [(0, .ref a0), (1, .int p0), (2, .int p1)]) (by decide +kernel) rfl rfl (Nat.le_of_ble_eq_true rfl) rfl (fun _ _ _ _ _ _ _ _ C => BX3_distance C hf)
theorem OX3_distance {T : zT} {h : zH} {a0 : Nat} {p0 : Int32} {p1 : Int32} {r9 : Int32} (hf : FX3_distance T a0 p0 p1 h = some r9) : ∃ fs, h a0 = some (.inr (3, fs)) := by
  obtain ⟨_, h1, _⟩ := zbind hf
  exact zo_obj h1
theorem dX3_leaningOf_0 : decode cX3_leaningOf 0 = .ok (.iload_n 1, 1) := by decide +kernel
theorem dX3_leaningOf_1 : decode cX3_leaningOf 1 = .ok (.iload_n 2, 1) := by decide +kernel
theorem dX3_leaningOf_2 : decode cX3_leaningOf 2 = .ok (.iconst 0, 1) := by decide +kernel
theorem dX3_leaningOf_3 : decode cX3_leaningOf 3 = .ok (.invokestatic 97, 3) := by decide +kernel
theorem dX3_leaningOf_6 : decode cX3_leaningOf 6 = .ok (.istore_n 3, 1) := by decide +kernel
theorem dX3_leaningOf_7 : decode cX3_leaningOf 7 = .ok (.aload_n 0, 1) := by decide +kernel
theorem dX3_leaningOf_8 : decode cX3_leaningOf 8 = .ok (.iload_n 3, 1) := by decide +kernel
theorem dX3_leaningOf_9 : decode cX3_leaningOf 9 = .ok (.iconst 1, 1) := by decide +kernel
theorem dX3_leaningOf_10 : decode cX3_leaningOf 10 = .ok (.invokevirtual 134, 3) := by decide +kernel
theorem dX3_leaningOf_13 : decode cX3_leaningOf 13 = .ok (.aload_n 0, 1) := by decide +kernel
theorem dX3_leaningOf_14 : decode cX3_leaningOf 14 = .ok (.iload_n 3, 1) := by decide +kernel
theorem dX3_leaningOf_15 : decode cX3_leaningOf 15 = .ok (.iconst 0, 1) := by decide +kernel
theorem dX3_leaningOf_16 : decode cX3_leaningOf 16 = .ok (.invokevirtual 134, 3) := by decide +kernel
theorem dX3_leaningOf_19 : decode cX3_leaningOf 19 = .ok (.isub, 1) := by decide +kernel
theorem dX3_leaningOf_20 : decode cX3_leaningOf 20 = .ok (.istore 4, 2) := by decide +kernel
theorem dX3_leaningOf_22 : decode cX3_leaningOf 22 = .ok (.aload_n 0, 1) := by decide +kernel
theorem dX3_leaningOf_23 : decode cX3_leaningOf 23 = .ok (.iload_n 1, 1) := by decide +kernel
theorem dX3_leaningOf_24 : decode cX3_leaningOf 24 = .ok (.iload_n 2, 1) := by decide +kernel
theorem dX3_leaningOf_25 : decode cX3_leaningOf 25 = .ok (.iconst 1, 1) := by decide +kernel
theorem dX3_leaningOf_26 : decode cX3_leaningOf 26 = .ok (.invokevirtual 105, 3) := by decide +kernel
theorem dX3_leaningOf_29 : decode cX3_leaningOf 29 = .ok (.ifCond .eq 31, 3) := by decide +kernel
theorem dX3_leaningOf_32 : decode cX3_leaningOf 32 = .ok (.iload_n 1, 1) := by decide +kernel
theorem dX3_leaningOf_33 : decode cX3_leaningOf 33 = .ok (.iload_n 2, 1) := by decide +kernel
theorem dX3_leaningOf_34 : decode cX3_leaningOf 34 = .ok (.iconst 1, 1) := by decide +kernel
theorem dX3_leaningOf_35 : decode cX3_leaningOf 35 = .ok (.invokestatic 97, 3) := by decide +kernel
theorem dX3_leaningOf_38 : decode cX3_leaningOf 38 = .ok (.istore 5, 2) := by decide +kernel
theorem dX3_leaningOf_40 : decode cX3_leaningOf 40 = .ok (.iload 4, 2) := by decide +kernel
theorem dX3_leaningOf_42 : decode cX3_leaningOf 42 = .ok (.aload_n 0, 1) := by decide +kernel
theorem dX3_leaningOf_43 : decode cX3_leaningOf 43 = .ok (.iload 5, 2) := by decide +kernel
theorem dX3_leaningOf_45 : decode cX3_leaningOf 45 = .ok (.iconst 0, 1) := by decide +kernel
theorem dX3_leaningOf_46 : decode cX3_leaningOf 46 = .ok (.invokevirtual 134, 3) := by decide +kernel
theorem dX3_leaningOf_49 : decode cX3_leaningOf 49 = .ok (.aload_n 0, 1) := by decide +kernel
theorem dX3_leaningOf_50 : decode cX3_leaningOf 50 = .ok (.iload 5, 2) := by decide +kernel
theorem dX3_leaningOf_52 : decode cX3_leaningOf 52 = .ok (.iconst 1, 1) := by decide +kernel
theorem dX3_leaningOf_53 : decode cX3_leaningOf 53 = .ok (.invokevirtual 134, 3) := by decide +kernel
theorem dX3_leaningOf_56 : decode cX3_leaningOf 56 = .ok (.isub, 1) := by decide +kernel
theorem dX3_leaningOf_57 : decode cX3_leaningOf 57 = .ok (.iadd, 1) := by decide +kernel
theorem dX3_leaningOf_58 : decode cX3_leaningOf 58 = .ok (.istore 4, 2) := by decide +kernel
theorem dX3_leaningOf_60 : decode cX3_leaningOf 60 = .ok (.iload 4, 2) := by decide +kernel
theorem dX3_leaningOf_62 : decode cX3_leaningOf 62 = .ok (.ireturn, 1) := by decide +kernel
def FX3_leaningOf (T : zT) (a0 : Nat) (p0 : Int32) (p1 : Int32) (h : zH) : Option Int32 := (zo h a0 3).bind fun _ => zJ (fun (x1 : Int32) => some x1) (fun J2 => (FX6_placeOf T p0 p1 0 h).bind fun x4 => (FX3_distance T a0 x4 1 h).bind fun x6 => (FX3_distance T a0 x4 0 h).bind fun x8 => (FX3_hasMark T a0 p0 p1 1 h).bind fun x10 => if x10 = 0 then (J2 (x6 - x8)) else ((FX6_placeOf T p0 p1 1 h).bind fun x12 => (FX3_distance T a0 x12 0 h).bind fun x14 => (FX3_distance T a0 x12 1 h).bind fun x16 => J2 ((x6 - x8) + (x14 - x16))))
set_option maxHeartbeats 4000000 in
set_option maxRecDepth 100000 in
theorem BX3_leaningOf {X : zX} (C : zC X cX3_leaningOf 6 RX3 "leaningOf" (some .int) 2 45) {al : Bool} {hi : Nat} {h : zH} {a0 : Nat} {p0 : Int32} {p1 : Int32} {r9 : Int32} (hf : FX3_leaningOf (xT X) a0 p0 p1 h = some r9) : zW X 6 (zZ X al (some (.int r9), hi, h)) 0 0 al hi h 0 [(0, .ref a0), (1, .int p0), (2, .int p1)] [] := by
  unfold FX3_leaningOf at hf
  obtain ⟨_, _, hf⟩ := zbind hf
  refine z_join (P := fun J => ∀ (x1 : Int32), J x1 = some r9 → zW X 6 (zZ X al (some (.int r9), hi, h)) 0 0 al hi h 60 [(4, .int x1)] []) hf ?_ ?_
  · intro x1 hf
    refine z_iload C dX3_leaningOf_60 0 rfl ?_
    exact z_ireturn C dX3_leaningOf_62 (by cases hf; rfl)
  · intro J2 kJ2 hf
    refine z_iload_n C dX3_leaningOf_0 1 rfl rfl ?_
    refine z_iload_n C dX3_leaningOf_1 2 rfl rfl ?_
    refine z_iconst C (v := 0) dX3_leaningOf_2 (by decide) ?_
    obtain ⟨x4, g3, hf⟩ := zbind hf
    refine z_callSN (kc' := 0) (ks' := 0) C (MX6_placeOf (xl X) (xD X) (xT X) (xlo X) al hi g3) cw_X3_97 nw_X3_97 mw_408 mw_26 ys_X6_placeOf dX3_leaningOf_3 rfl (by decide) ⟨rfl, rfl⟩ (Nat.le_of_ble_eq_true rfl) (st := []) rfl ?_
    refine z_istore_n C dX3_leaningOf_6 rfl (by decide) (lv' := [(3, .int x4), (0, .ref a0), (1, .int p0), (2, .int p1)]) rfl ?_
    refine z_aload_n C dX3_leaningOf_7 1 rfl rfl ?_
    refine z_iload_n C dX3_leaningOf_8 0 rfl rfl ?_
    refine z_iconst C (v := 1) dX3_leaningOf_9 (by decide) ?_
    obtain ⟨x6, g5, hf⟩ := zbind hf
    refine z_callV (kc' := 0) (ks' := 0) C (MX3_distance (xl X) (xD X) (xT X) (xlo X) al hi g5) (OX3_distance g5) rfl cw_X3_134 yv_X3_distance dX3_leaningOf_10 rfl (by decide) ⟨rfl, rfl⟩ (Nat.le_of_ble_eq_true rfl) (st := []) rfl ?_
    refine z_aload_n C dX3_leaningOf_13 1 rfl rfl ?_
    refine z_iload_n C dX3_leaningOf_14 0 rfl rfl ?_
    refine z_iconst C (v := 0) dX3_leaningOf_15 (by decide) ?_
    obtain ⟨x8, g7, hf⟩ := zbind hf
    refine z_callV (kc' := 0) (ks' := 0) C (MX3_distance (xl X) (xD X) (xT X) (xlo X) al hi g7) (OX3_distance g7) rfl cw_X3_134 yv_X3_distance dX3_leaningOf_16 rfl (by decide) ⟨rfl, rfl⟩ (Nat.le_of_ble_eq_true rfl) (st := [.int x6]) rfl ?_
    refine z_isub C dX3_leaningOf_19 ?_
    refine z_istore C dX3_leaningOf_20 (by decide) (lv' := [(4, .int (x6 - x8)), (3, .int x4), (0, .ref a0), (1, .int p0), (2, .int p1)]) rfl ?_
    refine z_aload_n C dX3_leaningOf_22 2 rfl rfl ?_
    refine z_iload_n C dX3_leaningOf_23 3 rfl rfl ?_
    refine z_iload_n C dX3_leaningOf_24 4 rfl rfl ?_
    refine z_iconst C (v := 1) dX3_leaningOf_25 (by decide) ?_
    obtain ⟨x10, g9, hf⟩ := zbind hf
    refine z_callV (kc' := 0) (ks' := 0) C (MX3_hasMark (xl X) (xD X) (xT X) (xlo X) al hi g9) (OX3_hasMark g9) rfl cw_X3_105 yv_X3_hasMark dX3_leaningOf_26 rfl (by decide) ⟨rfl, rfl⟩ (Nat.le_of_ble_eq_true rfl) (st := []) rfl ?_
    refine z_if_eq (tgt := 60) C dX3_leaningOf_29 (by decide) hf (fun hf => ?_) (fun hf => ?_)
    · refine z_sub [0] rfl ?_
      exact kJ2 _ hf
    · refine z_iload_n C dX3_leaningOf_32 3 rfl rfl ?_
      refine z_iload_n C dX3_leaningOf_33 4 rfl rfl ?_
      refine z_iconst C (v := 1) dX3_leaningOf_34 (by decide) ?_
      obtain ⟨x12, g11, hf⟩ := zbind hf
      refine z_callSN (kc' := 0) (ks' := 0) C (MX6_placeOf (xl X) (xD X) (xT X) (xlo X) al hi g11) cw_X3_97 nw_X3_97 mw_408 mw_26 ys_X6_placeOf dX3_leaningOf_35 rfl (by decide) ⟨rfl, rfl⟩ (Nat.le_of_ble_eq_true rfl) (st := []) rfl ?_
      refine z_istore C dX3_leaningOf_38 (by decide) (lv' := [(5, .int x12), (4, .int (x6 - x8)), (3, .int x4), (0, .ref a0), (1, .int p0), (2, .int p1)]) rfl ?_
      refine z_iload C dX3_leaningOf_40 1 rfl ?_
      refine z_aload_n C dX3_leaningOf_42 3 rfl rfl ?_
      refine z_iload C dX3_leaningOf_43 0 rfl ?_
      refine z_iconst C (v := 0) dX3_leaningOf_45 (by decide) ?_
      obtain ⟨x14, g13, hf⟩ := zbind hf
      refine z_callV (kc' := 0) (ks' := 0) C (MX3_distance (xl X) (xD X) (xT X) (xlo X) al hi g13) (OX3_distance g13) rfl cw_X3_134 yv_X3_distance dX3_leaningOf_46 rfl (by decide) ⟨rfl, rfl⟩ (Nat.le_of_ble_eq_true rfl) (st := [.int (x6 - x8)]) rfl ?_
      refine z_aload_n C dX3_leaningOf_49 3 rfl rfl ?_
      refine z_iload C dX3_leaningOf_50 0 rfl ?_
      refine z_iconst C (v := 1) dX3_leaningOf_52 (by decide) ?_
      obtain ⟨x16, g15, hf⟩ := zbind hf
      refine z_callV (kc' := 0) (ks' := 0) C (MX3_distance (xl X) (xD X) (xT X) (xlo X) al hi g15) (OX3_distance g15) rfl cw_X3_134 yv_X3_distance dX3_leaningOf_53 rfl (by decide) ⟨rfl, rfl⟩ (Nat.le_of_ble_eq_true rfl) (st := [.int x14, .int (x6 - x8)]) rfl ?_
      refine z_isub C dX3_leaningOf_56 ?_
      refine z_iadd C dX3_leaningOf_57 ?_
      refine z_istore C dX3_leaningOf_58 (by decide) (lv' := [(4, .int ((x6 - x8) + (x14 - x16))), (5, .int x12), (3, .int x4), (0, .ref a0), (1, .int p0), (2, .int p1)]) rfl ?_
      refine z_sub [0] rfl ?_
      exact kJ2 _ hf
theorem MX3_leaningOf (l : Launch) (D : va_G) (T : zT) (lo : Nat) (al : Bool) (hi : Nat) {h : zH} {a0 : Nat} {p0 : Int32} {p1 : Int32} {v9 : Int32} (hf : FX3_leaningOf T a0 p0 p1 h = some v9) : zM l yX3_leaningOf (.code yX3_leaningOf cX3_leaningOf 6 (some .int) :: TW) ({ frames := 2, cells := 0, slots := 0, locals := 45 } : Room) D T lo al [.ref a0, .int p0, .int p1] hi h (some (.int v9), hi, h) :=
  z_enter (own := RX3) (nm := "leaningOf") (lv := [(0, .ref a0), (1, .int p0), (2, .int p1)]) (by decide +kernel) rfl rfl (Nat.le_of_ble_eq_true rfl) rfl (fun _ _ _ _ _ _ _ _ C => BX3_leaningOf C hf)
theorem OX3_leaningOf {T : zT} {h : zH} {a0 : Nat} {p0 : Int32} {p1 : Int32} {r9 : Int32} (hf : FX3_leaningOf T a0 p0 p1 h = some r9) : ∃ fs, h a0 = some (.inr (3, fs)) := by
  obtain ⟨_, h1, _⟩ := zbind hf
  exact zo_obj h1
theorem dX3_ownerOfFirst_0 : decode cX3_ownerOfFirst 0 = .ok (.aload_n 0, 1) := by decide +kernel
theorem dX3_ownerOfFirst_1 : decode cX3_ownerOfFirst 1 = .ok (.iload_n 1, 1) := by decide +kernel
theorem dX3_ownerOfFirst_2 : decode cX3_ownerOfFirst 2 = .ok (.iload_n 2, 1) := by decide +kernel
theorem dX3_ownerOfFirst_3 : decode cX3_ownerOfFirst 3 = .ok (.iconst 0, 1) := by decide +kernel
theorem dX3_ownerOfFirst_4 : decode cX3_ownerOfFirst 4 = .ok (.invokevirtual 105, 3) := by decide +kernel
theorem dX3_ownerOfFirst_7 : decode cX3_ownerOfFirst 7 = .ok (.ifCond .ne 6, 3) := by decide +kernel
theorem dX3_ownerOfFirst_10 : decode cX3_ownerOfFirst 10 = .ok (.bipush (-9), 2) := by decide +kernel
theorem dX3_ownerOfFirst_12 : decode cX3_ownerOfFirst 12 = .ok (.ireturn, 1) := by decide +kernel
theorem dX3_ownerOfFirst_13 : decode cX3_ownerOfFirst 13 = .ok (.aload_n 0, 1) := by decide +kernel
theorem dX3_ownerOfFirst_14 : decode cX3_ownerOfFirst 14 = .ok (.iload_n 1, 1) := by decide +kernel
theorem dX3_ownerOfFirst_15 : decode cX3_ownerOfFirst 15 = .ok (.iload_n 2, 1) := by decide +kernel
theorem dX3_ownerOfFirst_16 : decode cX3_ownerOfFirst 16 = .ok (.iconst 0, 1) := by decide +kernel
theorem dX3_ownerOfFirst_17 : decode cX3_ownerOfFirst 17 = .ok (.invokevirtual 112, 3) := by decide +kernel
theorem dX3_ownerOfFirst_20 : decode cX3_ownerOfFirst 20 = .ok (.istore_n 3, 1) := by decide +kernel
theorem dX3_ownerOfFirst_21 : decode cX3_ownerOfFirst 21 = .ok (.iload_n 3, 1) := by decide +kernel
theorem dX3_ownerOfFirst_22 : decode cX3_ownerOfFirst 22 = .ok (.bipush (-9), 2) := by decide +kernel
theorem dX3_ownerOfFirst_24 : decode cX3_ownerOfFirst 24 = .ok (.if_icmp .eq 5, 3) := by decide +kernel
theorem dX3_ownerOfFirst_27 : decode cX3_ownerOfFirst 27 = .ok (.iload_n 3, 1) := by decide +kernel
theorem dX3_ownerOfFirst_28 : decode cX3_ownerOfFirst 28 = .ok (.ireturn, 1) := by decide +kernel
theorem dX3_ownerOfFirst_29 : decode cX3_ownerOfFirst 29 = .ok (.aload_n 0, 1) := by decide +kernel
theorem dX3_ownerOfFirst_30 : decode cX3_ownerOfFirst 30 = .ok (.iload_n 1, 1) := by decide +kernel
theorem dX3_ownerOfFirst_31 : decode cX3_ownerOfFirst 31 = .ok (.iload_n 2, 1) := by decide +kernel
theorem dX3_ownerOfFirst_32 : decode cX3_ownerOfFirst 32 = .ok (.iconst 1, 1) := by decide +kernel
theorem dX3_ownerOfFirst_33 : decode cX3_ownerOfFirst 33 = .ok (.invokevirtual 112, 3) := by decide +kernel
theorem dX3_ownerOfFirst_36 : decode cX3_ownerOfFirst 36 = .ok (.istore 4, 2) := by decide +kernel
theorem dX3_ownerOfFirst_38 : decode cX3_ownerOfFirst 38 = .ok (.iload 4, 2) := by decide +kernel
theorem dX3_ownerOfFirst_40 : decode cX3_ownerOfFirst 40 = .ok (.bipush (-9), 2) := by decide +kernel
theorem dX3_ownerOfFirst_42 : decode cX3_ownerOfFirst 42 = .ok (.if_icmp .eq 8, 3) := by decide +kernel
theorem dX3_ownerOfFirst_45 : decode cX3_ownerOfFirst 45 = .ok (.iconst 1, 1) := by decide +kernel
theorem dX3_ownerOfFirst_46 : decode cX3_ownerOfFirst 46 = .ok (.iload 4, 2) := by decide +kernel
theorem dX3_ownerOfFirst_48 : decode cX3_ownerOfFirst 48 = .ok (.isub, 1) := by decide +kernel
theorem dX3_ownerOfFirst_49 : decode cX3_ownerOfFirst 49 = .ok (.ireturn, 1) := by decide +kernel
theorem dX3_ownerOfFirst_50 : decode cX3_ownerOfFirst 50 = .ok (.aload_n 0, 1) := by decide +kernel
theorem dX3_ownerOfFirst_51 : decode cX3_ownerOfFirst 51 = .ok (.iload_n 1, 1) := by decide +kernel
theorem dX3_ownerOfFirst_52 : decode cX3_ownerOfFirst 52 = .ok (.iload_n 2, 1) := by decide +kernel
theorem dX3_ownerOfFirst_53 : decode cX3_ownerOfFirst 53 = .ok (.invokevirtual 137, 3) := by decide +kernel
theorem dX3_ownerOfFirst_56 : decode cX3_ownerOfFirst 56 = .ok (.istore 5, 2) := by decide +kernel
theorem dX3_ownerOfFirst_58 : decode cX3_ownerOfFirst 58 = .ok (.iload 5, 2) := by decide +kernel
theorem dX3_ownerOfFirst_60 : decode cX3_ownerOfFirst 60 = .ok (.invokestatic 129, 3) := by decide +kernel
theorem dX3_ownerOfFirst_63 : decode cX3_ownerOfFirst 63 = .ok (.aload_n 0, 1) := by decide +kernel
theorem dX3_ownerOfFirst_64 : decode cX3_ownerOfFirst 64 = .ok (.getfield 48, 3) := by decide +kernel
theorem dX3_ownerOfFirst_67 : decode cX3_ownerOfFirst 67 = .ok (.if_icmp .gt 6, 3) := by decide +kernel
theorem dX3_ownerOfFirst_70 : decode cX3_ownerOfFirst 70 = .ok (.bipush (-9), 2) := by decide +kernel
theorem dX3_ownerOfFirst_72 : decode cX3_ownerOfFirst 72 = .ok (.ireturn, 1) := by decide +kernel
theorem dX3_ownerOfFirst_73 : decode cX3_ownerOfFirst 73 = .ok (.iload 5, 2) := by decide +kernel
theorem dX3_ownerOfFirst_75 : decode cX3_ownerOfFirst 75 = .ok (.ifCond .le 7, 3) := by decide +kernel
theorem dX3_ownerOfFirst_78 : decode cX3_ownerOfFirst 78 = .ok (.iconst 0, 1) := by decide +kernel
theorem dX3_ownerOfFirst_79 : decode cX3_ownerOfFirst 79 = .ok (.goto 4, 3) := by decide +kernel
theorem dX3_ownerOfFirst_82 : decode cX3_ownerOfFirst 82 = .ok (.iconst 1, 1) := by decide +kernel
theorem dX3_ownerOfFirst_83 : decode cX3_ownerOfFirst 83 = .ok (.ireturn, 1) := by decide +kernel
def FX3_ownerOfFirst (T : zT) (a0 : Nat) (p0 : Int32) (p1 : Int32) (h : zH) : Option Int32 := (zo h a0 3).bind fun _ => (FX3_hasMark T a0 p0 p1 0 h).bind fun x2 => if x2 = 0 then (some (-9 : Int32)) else ((FX3_decisionOf T a0 p0 p1 0 h).bind fun x4 => if x4 = (-9 : Int32) then ((FX3_decisionOf T a0 p0 p1 1 h).bind fun x6 => if x6 = (-9 : Int32) then ((FX3_leaningOf T a0 p0 p1 h).bind fun x8 => (zgi h a0 3 2).bind fun x9 => if x9 < (if 0 ≤ x8 then x8 else 0 - x8) then (zJ (fun (x10 : Int32) => some x10) (fun J11 => if x8 ≤ 0 then (J11 1) else (J11 0))) else (some (-9 : Int32))) else (some (1 - x6))) else (some x4))
set_option maxHeartbeats 4000000 in
set_option maxRecDepth 100000 in
theorem BX3_ownerOfFirst {X : zX} (C : zC X cX3_ownerOfFirst 6 RX3 "ownerOfFirst" (some .int) 3 70) {al : Bool} {hi : Nat} {h : zH} {a0 : Nat} {p0 : Int32} {p1 : Int32} {r9 : Int32} (hf : FX3_ownerOfFirst (xT X) a0 p0 p1 h = some r9) : zW X 6 (zZ X al (some (.int r9), hi, h)) 0 0 al hi h 0 [(0, .ref a0), (1, .int p0), (2, .int p1)] [] := by
  unfold FX3_ownerOfFirst at hf
  obtain ⟨_, _, hf⟩ := zbind hf
  refine z_aload_n C dX3_ownerOfFirst_0 0 rfl rfl ?_
  refine z_iload_n C dX3_ownerOfFirst_1 1 rfl rfl ?_
  refine z_iload_n C dX3_ownerOfFirst_2 2 rfl rfl ?_
  refine z_iconst C (v := 0) dX3_ownerOfFirst_3 (by decide) ?_
  obtain ⟨x2, g1, hf⟩ := zbind hf
  refine z_callV (kc' := 0) (ks' := 0) C (MX3_hasMark (xl X) (xD X) (xT X) (xlo X) al hi g1) (OX3_hasMark g1) rfl cw_X3_105 yv_X3_hasMark dX3_ownerOfFirst_4 rfl (by decide) ⟨rfl, rfl⟩ (Nat.le_of_ble_eq_true rfl) (st := []) rfl ?_
  refine z_if_ne (tgt := 13) C dX3_ownerOfFirst_7 (by decide) hf (fun hf => ?_) (fun hf => ?_)
  · refine z_aload_n C dX3_ownerOfFirst_13 0 rfl rfl ?_
    refine z_iload_n C dX3_ownerOfFirst_14 1 rfl rfl ?_
    refine z_iload_n C dX3_ownerOfFirst_15 2 rfl rfl ?_
    refine z_iconst C (v := 0) dX3_ownerOfFirst_16 (by decide) ?_
    obtain ⟨x4, g3, hf⟩ := zbind hf
    refine z_callV (kc' := 0) (ks' := 0) C (MX3_decisionOf (xl X) (xD X) (xT X) (xlo X) al hi g3) (OX3_decisionOf g3) rfl cw_X3_112 yv_X3_decisionOf dX3_ownerOfFirst_17 rfl (by decide) ⟨rfl, rfl⟩ (Nat.le_of_ble_eq_true rfl) (st := []) rfl ?_
    refine z_istore_n C dX3_ownerOfFirst_20 rfl (by decide) (lv' := [(3, .int x4), (0, .ref a0), (1, .int p0), (2, .int p1)]) rfl ?_
    refine z_iload_n C dX3_ownerOfFirst_21 0 rfl rfl ?_
    refine z_bipush C (v := (-9 : Int32)) dX3_ownerOfFirst_22 (by decide) ?_
    refine z_icmp_eq (tgt := 29) C dX3_ownerOfFirst_24 (by decide) hf (fun hf => ?_) (fun hf => ?_)
    · refine z_aload_n C dX3_ownerOfFirst_29 1 rfl rfl ?_
      refine z_iload_n C dX3_ownerOfFirst_30 2 rfl rfl ?_
      refine z_iload_n C dX3_ownerOfFirst_31 3 rfl rfl ?_
      refine z_iconst C (v := 1) dX3_ownerOfFirst_32 (by decide) ?_
      obtain ⟨x6, g5, hf⟩ := zbind hf
      refine z_callV (kc' := 0) (ks' := 0) C (MX3_decisionOf (xl X) (xD X) (xT X) (xlo X) al hi g5) (OX3_decisionOf g5) rfl cw_X3_112 yv_X3_decisionOf dX3_ownerOfFirst_33 rfl (by decide) ⟨rfl, rfl⟩ (Nat.le_of_ble_eq_true rfl) (st := []) rfl ?_
      refine z_istore C dX3_ownerOfFirst_36 (by decide) (lv' := [(4, .int x6), (3, .int x4), (0, .ref a0), (1, .int p0), (2, .int p1)]) rfl ?_
      refine z_iload C dX3_ownerOfFirst_38 0 rfl ?_
      refine z_bipush C (v := (-9 : Int32)) dX3_ownerOfFirst_40 (by decide) ?_
      refine z_icmp_eq (tgt := 50) C dX3_ownerOfFirst_42 (by decide) hf (fun hf => ?_) (fun hf => ?_)
      · refine z_aload_n C dX3_ownerOfFirst_50 2 rfl rfl ?_
        refine z_iload_n C dX3_ownerOfFirst_51 3 rfl rfl ?_
        refine z_iload_n C dX3_ownerOfFirst_52 4 rfl rfl ?_
        obtain ⟨x8, g7, hf⟩ := zbind hf
        refine z_callV (kc' := 0) (ks' := 0) C (MX3_leaningOf (xl X) (xD X) (xT X) (xlo X) al hi g7) (OX3_leaningOf g7) rfl cw_X3_137 yv_X3_leaningOf dX3_ownerOfFirst_53 rfl (by decide) ⟨rfl, rfl⟩ (Nat.le_of_ble_eq_true rfl) (st := []) rfl ?_
        refine z_istore C dX3_ownerOfFirst_56 (by decide) (lv' := [(5, .int x8), (4, .int x6), (3, .int x4), (0, .ref a0), (1, .int p0), (2, .int p1)]) rfl ?_
        refine z_iload C dX3_ownerOfFirst_58 0 rfl ?_
        refine z_abs C mw_447 mw_abss mw_mathi mw_absc dX3_ownerOfFirst_60 ⟨Nat.le_of_ble_eq_true rfl, Nat.le_of_ble_eq_true rfl⟩ ?_
        refine z_aload_n C dX3_ownerOfFirst_63 3 rfl rfl ?_
        refine z_getI C fl_X3_48 dX3_ownerOfFirst_64 hf (fun x9 hf => ?_)
        refine z_icmp_gt (tgt := 73) C dX3_ownerOfFirst_67 (by decide) hf (fun hf => ?_) (fun hf => ?_)
        · refine z_join (P := fun J => ∀ (x10 : Int32), J x10 = some r9 → zW X 6 (zZ X al (some (.int r9), hi, h)) 0 0 al hi h 83 [] [.int x10]) hf ?_ ?_
          · intro x10 hf
            exact z_ireturn C dX3_ownerOfFirst_83 (by cases hf; rfl)
          · intro J11 kJ11 hf
            refine z_iload C dX3_ownerOfFirst_73 0 rfl ?_
            refine z_if_le (tgt := 82) C dX3_ownerOfFirst_75 (by decide) hf (fun hf => ?_) (fun hf => ?_)
            · refine z_iconst C (v := 1) dX3_ownerOfFirst_82 (by decide) ?_
              refine z_sub [] rfl ?_
              exact kJ11 _ hf
            · refine z_iconst C (v := 0) dX3_ownerOfFirst_78 (by decide) ?_
              refine z_goto (tgt := 83) C dX3_ownerOfFirst_79 (by decide) ?_
              refine z_sub [] rfl ?_
              exact kJ11 _ hf
        · refine z_bipush C (v := (-9 : Int32)) dX3_ownerOfFirst_70 (by decide) ?_
          exact z_ireturn C dX3_ownerOfFirst_72 (by cases hf; rfl)
      · refine z_iconst C (v := 1) dX3_ownerOfFirst_45 (by decide) ?_
        refine z_iload C dX3_ownerOfFirst_46 0 rfl ?_
        refine z_isub C dX3_ownerOfFirst_48 ?_
        exact z_ireturn C dX3_ownerOfFirst_49 (by cases hf; rfl)
    · refine z_iload_n C dX3_ownerOfFirst_27 0 rfl rfl ?_
      exact z_ireturn C dX3_ownerOfFirst_28 (by cases hf; rfl)
  · refine z_bipush C (v := (-9 : Int32)) dX3_ownerOfFirst_10 (by decide) ?_
    exact z_ireturn C dX3_ownerOfFirst_12 (by cases hf; rfl)
theorem MX3_ownerOfFirst (l : Launch) (D : va_G) (T : zT) (lo : Nat) (al : Bool) (hi : Nat) {h : zH} {a0 : Nat} {p0 : Int32} {p1 : Int32} {v9 : Int32} (hf : FX3_ownerOfFirst T a0 p0 p1 h = some v9) : zM l yX3_ownerOfFirst (.code yX3_ownerOfFirst cX3_ownerOfFirst 6 (some .int) :: TW) ({ frames := 3, cells := 0, slots := 0, locals := 70 } : Room) D T lo al [.ref a0, .int p0, .int p1] hi h (some (.int v9), hi, h) :=
  z_enter (own := RX3) (nm := "ownerOfFirst") (lv := [(0, .ref a0), (1, .int p0), (2, .int p1)]) (by decide +kernel) rfl rfl (Nat.le_of_ble_eq_true rfl) rfl (fun _ _ _ _ _ _ _ _ C => BX3_ownerOfFirst C hf)
theorem OX3_ownerOfFirst {T : zT} {h : zH} {a0 : Nat} {p0 : Int32} {p1 : Int32} {r9 : Int32} (hf : FX3_ownerOfFirst T a0 p0 p1 h = some r9) : ∃ fs, h a0 = some (.inr (3, fs)) := by
  obtain ⟨_, h1, _⟩ := zbind hf
  exact zo_obj h1
