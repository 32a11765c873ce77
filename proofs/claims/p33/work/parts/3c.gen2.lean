theorem mw_7 : (Jvm.Cond.selects "CrossedSheet" ({ cls := "CrossedSheet", name := "readText", desc := "()I" } : Jvm.MethodName) ({ cls := "CrossedSheet", name := "readText", desc := "()I" } : Jvm.MethodName)) ∈ TW := TWm 7 (by decide +kernel) (by decide +kernel)
theorem mw_11 : (Jvm.Cond.selects "CrossedSheet" ({ cls := "CrossedSheet", name := "readPresent", desc := "(I)I" } : Jvm.MethodName) ({ cls := "CrossedSheet", name := "readPresent", desc := "(I)I" } : Jvm.MethodName)) ∈ TW := TWm 11 (by decide +kernel) (by decide +kernel)
theorem mw_15 : (Jvm.Cond.selects "CrossedSheet$Shelf" ({ cls := "CrossedSheet$Shelf", name := "sheetAt", desc := "(I)LCrossedSheet$Sheet;" } : Jvm.MethodName) ({ cls := "CrossedSheet$Shelf", name := "sheetAt", desc := "(I)LCrossedSheet$Sheet;" } : Jvm.MethodName)) ∈ TW := TWm 15 (by decide +kernel) (by decide +kernel)
theorem mw_20 : (Jvm.Cond.selects "CrossedSheet" ({ cls := "CrossedSheet", name := "tryDecide", desc := "(IIII)Z" } : Jvm.MethodName) ({ cls := "CrossedSheet", name := "tryDecide", desc := "(IIII)Z" } : Jvm.MethodName)) ∈ TW := TWm 20 (by decide +kernel) (by decide +kernel)
theorem mw_21 : (Jvm.Cond.selects "CrossedSheet" ({ cls := "CrossedSheet", name := "tryErase", desc := "(III)Z" } : Jvm.MethodName) ({ cls := "CrossedSheet", name := "tryErase", desc := "(III)Z" } : Jvm.MethodName)) ∈ TW := TWm 21 (by decide +kernel) (by decide +kernel)
theorem mw_22 : (Jvm.Cond.selects "CrossedSheet" ({ cls := "CrossedSheet", name := "trySetLetter", desc := "(IIII)Z" } : Jvm.MethodName) ({ cls := "CrossedSheet", name := "trySetLetter", desc := "(IIII)Z" } : Jvm.MethodName)) ∈ TW := TWm 22 (by decide +kernel) (by decide +kernel)
theorem mw_23 : (Jvm.Cond.selects "CrossedSheet" ({ cls := "CrossedSheet", name := "trySetMargin", desc := "(I)Z" } : Jvm.MethodName) ({ cls := "CrossedSheet", name := "trySetMargin", desc := "(I)Z" } : Jvm.MethodName)) ∈ TW := TWm 23 (by decide +kernel) (by decide +kernel)
theorem mw_24 : (Jvm.Cond.selects "CrossedSheet" ({ cls := "CrossedSheet", name := "tryTurn", desc := "()Z" } : Jvm.MethodName) ({ cls := "CrossedSheet", name := "tryTurn", desc := "()Z" } : Jvm.MethodName)) ∈ TW := TWm 24 (by decide +kernel) (by decide +kernel)
theorem mw_30 : (Jvm.Cond.initialized "CrossedSheet$History") ∈ TW := TWm 30 (by decide +kernel) (by decide +kernel)
theorem mw_31 : (Jvm.Cond.initialized "CrossedSheet$Shelf") ∈ TW := TWm 31 (by decide +kernel) (by decide +kernel)
theorem mw_118 : (Jvm.Cond.fieldLink "CrossedSheet" (106 : Nat) "CrossedSheet$Sheet" "width" "I") ∈ TW := TWm 118 (by decide +kernel) (by decide +kernel)
theorem mw_122 : (Jvm.Cond.fieldLink "CrossedSheet" (109 : Nat) "CrossedSheet$Sheet" "height" "I") ∈ TW := TWm 122 (by decide +kernel) (by decide +kernel)
theorem mw_125 : (Jvm.Cond.fieldLink "CrossedSheet" (118 : Nat) "CrossedSheet$Sheet" "margin" "I") ∈ TW := TWm 125 (by decide +kernel) (by decide +kernel)
theorem mw_128 : (Jvm.Cond.fieldLink "CrossedSheet" (121 : Nat) "CrossedSheet$Sheet" "gap" "I") ∈ TW := TWm 128 (by decide +kernel) (by decide +kernel)
theorem mw_189 : (Jvm.Cond.fieldLink "CrossedSheet$Shelf" (9 : Nat) "CrossedSheet$Shelf" "sheets" "[LCrossedSheet$Sheet;") ∈ TW := TWm 189 (by decide +kernel) (by decide +kernel)
theorem mw_190 : (Jvm.Cond.fieldLink "CrossedSheet$Shelf" (20 : Nat) "CrossedSheet$Shelf" "filled" "LCrossedSheet$Numbers;") ∈ TW := TWm 190 (by decide +kernel) (by decide +kernel)
theorem mw_196 : (Jvm.Cond.fieldLink "CrossedSheet$History" (28 : Nat) "CrossedSheet$History" "size" "I") ∈ TW := TWm 196 (by decide +kernel) (by decide +kernel)
theorem mw_198 : (Jvm.Cond.fieldLink "CrossedSheet$History" (20 : Nat) "CrossedSheet$History" "next" "I") ∈ TW := TWm 198 (by decide +kernel) (by decide +kernel)
theorem mw_199 : (Jvm.Cond.fieldLink "CrossedSheet$History" (14 : Nat) "CrossedSheet$History" "states" "LCrossedSheet$Shelf;") ∈ TW := TWm 199 (by decide +kernel) (by decide +kernel)
theorem mw_248 : (Jvm.Cond.fieldLink "CrossedSheet" (14 : Nat) "CrossedSheet" "text" "LCrossedSheet$Numbers;") ∈ TW := TWm 248 (by decide +kernel) (by decide +kernel)
theorem mw_249 : (Jvm.Cond.fieldLink "CrossedSheet" (18 : Nat) "CrossedSheet" "textLength" "I") ∈ TW := TWm 249 (by decide +kernel) (by decide +kernel)
theorem mw_250 : (Jvm.Cond.fieldLink "CrossedSheet" (25 : Nat) "CrossedSheet" "textReader" "LCrossedSheet$TextReader;") ∈ TW := TWm 250 (by decide +kernel) (by decide +kernel)
theorem mw_251 : (Jvm.Cond.fieldLink "CrossedSheet" (32 : Nat) "CrossedSheet" "present" "LCrossedSheet$Sheet;") ∈ TW := TWm 251 (by decide +kernel) (by decide +kernel)
theorem mw_252 : (Jvm.Cond.fieldLink "CrossedSheet" (36 : Nat) "CrossedSheet" "trial" "LCrossedSheet$Sheet;") ∈ TW := TWm 252 (by decide +kernel) (by decide +kernel)
theorem mw_253 : (Jvm.Cond.fieldLink "CrossedSheet" (39 : Nat) "CrossedSheet" "beforeTurn" "LCrossedSheet$Sheet;") ∈ TW := TWm 253 (by decide +kernel) (by decide +kernel)
theorem mw_254 : (Jvm.Cond.fieldLink "CrossedSheet" (45 : Nat) "CrossedSheet" "history" "LCrossedSheet$History;") ∈ TW := TWm 254 (by decide +kernel) (by decide +kernel)
theorem mw_256 : (Jvm.Cond.fieldLink "CrossedSheet" (59 : Nat) "CrossedSheet" "reading" "LCrossedSheet$Reading;") ∈ TW := TWm 256 (by decide +kernel) (by decide +kernel)
theorem mw_258 : (Jvm.Cond.fieldLink "CrossedSheet" (66 : Nat) "CrossedSheet" "wanted" "LCrossedSheet$Numbers;") ∈ TW := TWm 258 (by decide +kernel) (by decide +kernel)
theorem mw_259 : (Jvm.Cond.fieldLink "CrossedSheet" (69 : Nat) "CrossedSheet" "commands" "LCrossedSheet$Numbers;") ∈ TW := TWm 259 (by decide +kernel) (by decide +kernel)
theorem mw_364 : (Jvm.Cond.methodLink "CrossedSheet" (93 : Nat) ({ cls := "CrossedSheet$Sheet", name := "takeFrom", desc := "(LCrossedSheet$Sheet;)V" } : Jvm.MethodName)) ∈ TW := TWm 364 (by decide +kernel) (by decide +kernel)
theorem mw_381 : (Jvm.Cond.methodLink "CrossedSheet" (376 : Nat) ({ cls := "CrossedSheet", name := "remainder", desc := "(II)I" } : Jvm.MethodName)) ∈ TW := TWm 381 (by decide +kernel) (by decide +kernel)
theorem mw_382 : (Jvm.Cond.static ({ cls := "CrossedSheet", name := "remainder", desc := "(II)I" } : Jvm.MethodName)) ∈ TW := TWm 382 (by decide +kernel) (by decide +kernel)
theorem mw_383 : (Jvm.Cond.code ({ cls := "CrossedSheet", name := "remainder", desc := "(II)I" } : Jvm.MethodName) prog_1_method_41_code (2 : Nat) (Option.some Jvm.ClassFile.FieldType.int)) ∈ TW := TWm 383 (by decide +kernel) (by decide +kernel)
theorem mw_384 : (Jvm.Cond.methodLink "CrossedSheet" (207 : Nat) ({ cls := "CrossedSheet$Sheet", name := "hasRoom", desc := "(II)Z" } : Jvm.MethodName)) ∈ TW := TWm 384 (by decide +kernel) (by decide +kernel)
theorem mw_399 : (Jvm.Cond.methodLink "CrossedSheet" (220 : Nat) ({ cls := "CrossedSheet$Sheet", name := "removeMark", desc := "(III)V" } : Jvm.MethodName)) ∈ TW := TWm 399 (by decide +kernel) (by decide +kernel)
theorem mw_400 : (Jvm.Cond.instanceMethod ({ cls := "CrossedSheet$Sheet", name := "removeMark", desc := "(III)V" } : Jvm.MethodName)) ∈ TW := TWm 400 (by decide +kernel) (by decide +kernel)
theorem mw_401 : (Jvm.Cond.selects "CrossedSheet$Sheet" ({ cls := "CrossedSheet$Sheet", name := "removeMark", desc := "(III)V" } : Jvm.MethodName) ({ cls := "CrossedSheet$Sheet", name := "removeMark", desc := "(III)V" } : Jvm.MethodName)) ∈ TW := TWm 401 (by decide +kernel) (by decide +kernel)
theorem mw_402 : (Jvm.Cond.code ({ cls := "CrossedSheet$Sheet", name := "removeMark", desc := "(III)V" } : Jvm.MethodName) prog_5_method_15_code (5 : Nat) (Option.none : Option Jvm.ClassFile.FieldType)) ∈ TW := TWm 402 (by decide +kernel) (by decide +kernel)
theorem mw_419 : (Jvm.Cond.constant "CrossedSheet" (379 : Nat) (65536 : Int32)) ∈ TW := TWm 419 (by decide +kernel) (by decide +kernel)
theorem mw_420 : (Jvm.Cond.methodLink "CrossedSheet" (216 : Nat) ({ cls := "CrossedSheet$Sheet", name := "addMark", desc := "(IIIII)V" } : Jvm.MethodName)) ∈ TW := TWm 420 (by decide +kernel) (by decide +kernel)
theorem mw_425 : (Jvm.Cond.methodLink "CrossedSheet" (260 : Nat) ({ cls := "CrossedSheet$Reading", name := "readLetter", desc := "(LCrossedSheet$Sheet;II)I" } : Jvm.MethodName)) ∈ TW := TWm 425 (by decide +kernel) (by decide +kernel)
theorem mw_426 : (Jvm.Cond.instanceMethod ({ cls := "CrossedSheet$Reading", name := "readLetter", desc := "(LCrossedSheet$Sheet;II)I" } : Jvm.MethodName)) ∈ TW := TWm 426 (by decide +kernel) (by decide +kernel)
theorem mw_427 : (Jvm.Cond.selects "CrossedSheet$Reading" ({ cls := "CrossedSheet$Reading", name := "readLetter", desc := "(LCrossedSheet$Sheet;II)I" } : Jvm.MethodName) ({ cls := "CrossedSheet$Reading", name := "readLetter", desc := "(LCrossedSheet$Sheet;II)I" } : Jvm.MethodName)) ∈ TW := TWm 427 (by decide +kernel) (by decide +kernel)
theorem mw_428 : (Jvm.Cond.code ({ cls := "CrossedSheet$Reading", name := "readLetter", desc := "(LCrossedSheet$Sheet;II)I" } : Jvm.MethodName) prog_4_method_2_code (13 : Nat) (Option.some Jvm.ClassFile.FieldType.int)) ∈ TW := TWm 428 (by decide +kernel) (by decide +kernel)
theorem mw_462 : (Jvm.Cond.methodLink "CrossedSheet" (112 : Nat) ({ cls := "CrossedSheet$Sheet", name := "countDoubtful", desc := "()I" } : Jvm.MethodName)) ∈ TW := TWm 462 (by decide +kernel) (by decide +kernel)
theorem mw_463 : (Jvm.Cond.instanceMethod ({ cls := "CrossedSheet$Sheet", name := "countDoubtful", desc := "()I" } : Jvm.MethodName)) ∈ TW := TWm 463 (by decide +kernel) (by decide +kernel)
theorem mw_464 : (Jvm.Cond.selects "CrossedSheet$Sheet" ({ cls := "CrossedSheet$Sheet", name := "countDoubtful", desc := "()I" } : Jvm.MethodName) ({ cls := "CrossedSheet$Sheet", name := "countDoubtful", desc := "()I" } : Jvm.MethodName)) ∈ TW := TWm 464 (by decide +kernel) (by decide +kernel)
theorem mw_465 : (Jvm.Cond.code ({ cls := "CrossedSheet$Sheet", name := "countDoubtful", desc := "()I" } : Jvm.MethodName) prog_5_method_28_code (4 : Nat) (Option.some Jvm.ClassFile.FieldType.int)) ∈ TW := TWm 465 (by decide +kernel) (by decide +kernel)
theorem mw_507 : (Jvm.Cond.methodLink "CrossedSheet" (83 : Nat) ({ cls := "CrossedSheet$Numbers", name := "put", desc := "(II)V" } : Jvm.MethodName)) ∈ TW := TWm 507 (by decide +kernel) (by decide +kernel)
theorem mw_516 : (Jvm.Cond.methodLink "CrossedSheet" (87 : Nat) ({ cls := "CrossedSheet", name := "readText", desc := "()I" } : Jvm.MethodName)) ∈ TW := TWm 516 (by decide +kernel) (by decide +kernel)
theorem mw_518 : (Jvm.Cond.instanceMethod ({ cls := "CrossedSheet", name := "readText", desc := "()I" } : Jvm.MethodName)) ∈ TW := TWm 518 (by decide +kernel) (by decide +kernel)
theorem mw_519 : (Jvm.Cond.code ({ cls := "CrossedSheet", name := "readText", desc := "()I" } : Jvm.MethodName) prog_1_method_42_code (3 : Nat) (Option.some Jvm.ClassFile.FieldType.int)) ∈ TW := TWm 519 (by decide +kernel) (by decide +kernel)
theorem mw_520 : (Jvm.Cond.methodLink "CrossedSheet" (339 : Nat) ({ cls := "CrossedSheet$TextReader", name := "begin", desc := "(LCrossedSheet$Sheet;)V" } : Jvm.MethodName)) ∈ TW := TWm 520 (by decide +kernel) (by decide +kernel)
theorem mw_521 : (Jvm.Cond.instanceMethod ({ cls := "CrossedSheet$TextReader", name := "begin", desc := "(LCrossedSheet$Sheet;)V" } : Jvm.MethodName)) ∈ TW := TWm 521 (by decide +kernel) (by decide +kernel)
theorem mw_522 : (Jvm.Cond.selects "CrossedSheet$TextReader" ({ cls := "CrossedSheet$TextReader", name := "begin", desc := "(LCrossedSheet$Sheet;)V" } : Jvm.MethodName) ({ cls := "CrossedSheet$TextReader", name := "begin", desc := "(LCrossedSheet$Sheet;)V" } : Jvm.MethodName)) ∈ TW := TWm 522 (by decide +kernel) (by decide +kernel)
theorem mw_523 : (Jvm.Cond.code ({ cls := "CrossedSheet$TextReader", name := "begin", desc := "(LCrossedSheet$Sheet;)V" } : Jvm.MethodName) prog_7_method_2_code (2 : Nat) (Option.none : Option Jvm.ClassFile.FieldType)) ∈ TW := TWm 523 (by decide +kernel) (by decide +kernel)
theorem mw_525 : (Jvm.Cond.methodLink "CrossedSheet" (140 : Nat) ({ cls := "CrossedSheet$Numbers", name := "at", desc := "(I)I" } : Jvm.MethodName)) ∈ TW := TWm 525 (by decide +kernel) (by decide +kernel)
theorem mw_526 : (Jvm.Cond.methodLink "CrossedSheet" (342 : Nat) ({ cls := "CrossedSheet$TextReader", name := "allows", desc := "(LCrossedSheet$Sheet;I)Z" } : Jvm.MethodName)) ∈ TW := TWm 526 (by decide +kernel) (by decide +kernel)
theorem mw_527 : (Jvm.Cond.instanceMethod ({ cls := "CrossedSheet$TextReader", name := "allows", desc := "(LCrossedSheet$Sheet;I)Z" } : Jvm.MethodName)) ∈ TW := TWm 527 (by decide +kernel) (by decide +kernel)
theorem mw_528 : (Jvm.Cond.selects "CrossedSheet$TextReader" ({ cls := "CrossedSheet$TextReader", name := "allows", desc := "(LCrossedSheet$Sheet;I)Z" } : Jvm.MethodName) ({ cls := "CrossedSheet$TextReader", name := "allows", desc := "(LCrossedSheet$Sheet;I)Z" } : Jvm.MethodName)) ∈ TW := TWm 528 (by decide +kernel) (by decide +kernel)
theorem mw_529 : (Jvm.Cond.code ({ cls := "CrossedSheet$TextReader", name := "allows", desc := "(LCrossedSheet$Sheet;I)Z" } : Jvm.MethodName) prog_7_method_4_code (4 : Nat) (Option.some Jvm.ClassFile.FieldType.boolean)) ∈ TW := TWm 529 (by decide +kernel) (by decide +kernel)
theorem mw_546 : (Jvm.Cond.methodLink "CrossedSheet" (346 : Nat) ({ cls := "CrossedSheet$TextReader", name := "take", desc := "(LCrossedSheet$Sheet;I)V" } : Jvm.MethodName)) ∈ TW := TWm 546 (by decide +kernel) (by decide +kernel)
theorem mw_547 : (Jvm.Cond.instanceMethod ({ cls := "CrossedSheet$TextReader", name := "take", desc := "(LCrossedSheet$Sheet;I)V" } : Jvm.MethodName)) ∈ TW := TWm 547 (by decide +kernel) (by decide +kernel)
theorem mw_548 : (Jvm.Cond.selects "CrossedSheet$TextReader" ({ cls := "CrossedSheet$TextReader", name := "take", desc := "(LCrossedSheet$Sheet;I)V" } : Jvm.MethodName) ({ cls := "CrossedSheet$TextReader", name := "take", desc := "(LCrossedSheet$Sheet;I)V" } : Jvm.MethodName)) ∈ TW := TWm 548 (by decide +kernel) (by decide +kernel)
theorem mw_549 : (Jvm.Cond.code ({ cls := "CrossedSheet$TextReader", name := "take", desc := "(LCrossedSheet$Sheet;I)V" } : Jvm.MethodName) prog_7_method_5_code (4 : Nat) (Option.none : Option Jvm.ClassFile.FieldType)) ∈ TW := TWm 549 (by decide +kernel) (by decide +kernel)
theorem mw_564 : (Jvm.Cond.methodLink "CrossedSheet" (350 : Nat) ({ cls := "CrossedSheet$TextReader", name := "mayEnd", desc := "()Z" } : Jvm.MethodName)) ∈ TW := TWm 564 (by decide +kernel) (by decide +kernel)
theorem mw_565 : (Jvm.Cond.instanceMethod ({ cls := "CrossedSheet$TextReader", name := "mayEnd", desc := "()Z" } : Jvm.MethodName)) ∈ TW := TWm 565 (by decide +kernel) (by decide +kernel)
theorem mw_566 : (Jvm.Cond.selects "CrossedSheet$TextReader" ({ cls := "CrossedSheet$TextReader", name := "mayEnd", desc := "()Z" } : Jvm.MethodName) ({ cls := "CrossedSheet$TextReader", name := "mayEnd", desc := "()Z" } : Jvm.MethodName)) ∈ TW := TWm 566 (by decide +kernel) (by decide +kernel)
theorem mw_567 : (Jvm.Cond.code ({ cls := "CrossedSheet$TextReader", name := "mayEnd", desc := "()Z" } : Jvm.MethodName) prog_7_method_3_code (1 : Nat) (Option.some Jvm.ClassFile.FieldType.boolean)) ∈ TW := TWm 567 (by decide +kernel) (by decide +kernel)
theorem mw_577 : (Jvm.Cond.methodLink "CrossedSheet$Shelf" (45 : Nat) ({ cls := "CrossedSheet$Numbers", name := "fill", desc := "(I)V" } : Jvm.MethodName)) ∈ TW := TWm 577 (by decide +kernel) (by decide +kernel)
theorem mw_597 : (Jvm.Cond.methodLink "CrossedSheet" (127 : Nat) ({ cls := "CrossedSheet", name := "readPresent", desc := "(I)I" } : Jvm.MethodName)) ∈ TW := TWm 597 (by decide +kernel) (by decide +kernel)
theorem mw_599 : (Jvm.Cond.instanceMethod ({ cls := "CrossedSheet", name := "readPresent", desc := "(I)I" } : Jvm.MethodName)) ∈ TW := TWm 599 (by decide +kernel) (by decide +kernel)
theorem mw_600 : (Jvm.Cond.code ({ cls := "CrossedSheet", name := "readPresent", desc := "(I)I" } : Jvm.MethodName) prog_1_method_43_code (2 : Nat) (Option.some Jvm.ClassFile.FieldType.int)) ∈ TW := TWm 600 (by decide +kernel) (by decide +kernel)
theorem mw_633 : (Jvm.Cond.methodLink "CrossedSheet$Reading" (94 : Nat) ({ cls := "CrossedSheet$Reading", name := "lengthOf", desc := "(I)I" } : Jvm.MethodName)) ∈ TW := TWm 633 (by decide +kernel) (by decide +kernel)
theorem mw_634 : (Jvm.Cond.instanceMethod ({ cls := "CrossedSheet$Reading", name := "lengthOf", desc := "(I)I" } : Jvm.MethodName)) ∈ TW := TWm 634 (by decide +kernel) (by decide +kernel)
theorem mw_635 : (Jvm.Cond.selects "CrossedSheet$Reading" ({ cls := "CrossedSheet$Reading", name := "lengthOf", desc := "(I)I" } : Jvm.MethodName) ({ cls := "CrossedSheet$Reading", name := "lengthOf", desc := "(I)I" } : Jvm.MethodName)) ∈ TW := TWm 635 (by decide +kernel) (by decide +kernel)
theorem mw_636 : (Jvm.Cond.code ({ cls := "CrossedSheet$Reading", name := "lengthOf", desc := "(I)I" } : Jvm.MethodName) prog_4_method_6_code (3 : Nat) (Option.some Jvm.ClassFile.FieldType.int)) ∈ TW := TWm 636 (by decide +kernel) (by decide +kernel)
theorem mw_637 : (Jvm.Cond.methodLink "CrossedSheet$Reading" (90 : Nat) ({ cls := "CrossedSheet$Reading", name := "hasNumber", desc := "(I)Z" } : Jvm.MethodName)) ∈ TW := TWm 637 (by decide +kernel) (by decide +kernel)
theorem mw_638 : (Jvm.Cond.instanceMethod ({ cls := "CrossedSheet$Reading", name := "hasNumber", desc := "(I)Z" } : Jvm.MethodName)) ∈ TW := TWm 638 (by decide +kernel) (by decide +kernel)
theorem mw_639 : (Jvm.Cond.selects "CrossedSheet$Reading" ({ cls := "CrossedSheet$Reading", name := "hasNumber", desc := "(I)Z" } : Jvm.MethodName) ({ cls := "CrossedSheet$Reading", name := "hasNumber", desc := "(I)Z" } : Jvm.MethodName)) ∈ TW := TWm 639 (by decide +kernel) (by decide +kernel)
theorem mw_640 : (Jvm.Cond.code ({ cls := "CrossedSheet$Reading", name := "hasNumber", desc := "(I)Z" } : Jvm.MethodName) prog_4_method_5_code (2 : Nat) (Option.some Jvm.ClassFile.FieldType.boolean)) ∈ TW := TWm 640 (by decide +kernel) (by decide +kernel)
theorem mw_641 : (Jvm.Cond.methodLink "CrossedSheet$Reading" (97 : Nat) ({ cls := "java/lang/Math", name := "max", desc := "(II)I" } : Jvm.MethodName)) ∈ TW := TWm 641 (by decide +kernel) (by decide +kernel)
theorem mw_670 : (Jvm.Cond.methodLink "CrossedSheet" (328 : Nat) ({ cls := "CrossedSheet$Sheet", name := "hasMark", desc := "(III)Z" } : Jvm.MethodName)) ∈ TW := TWm 670 (by decide +kernel) (by decide +kernel)
theorem mw_673 : (Jvm.Cond.methodLink "CrossedSheet" (178 : Nat) ({ cls := "CrossedSheet$Sheet", name := "ownerOf", desc := "(III)I" } : Jvm.MethodName)) ∈ TW := TWm 673 (by decide +kernel) (by decide +kernel)
theorem mw_674 : (Jvm.Cond.instanceMethod ({ cls := "CrossedSheet$Sheet", name := "ownerOf", desc := "(III)I" } : Jvm.MethodName)) ∈ TW := TWm 674 (by decide +kernel) (by decide +kernel)
theorem mw_675 : (Jvm.Cond.selects "CrossedSheet$Sheet" ({ cls := "CrossedSheet$Sheet", name := "ownerOf", desc := "(III)I" } : Jvm.MethodName) ({ cls := "CrossedSheet$Sheet", name := "ownerOf", desc := "(III)I" } : Jvm.MethodName)) ∈ TW := TWm 675 (by decide +kernel) (by decide +kernel)
theorem mw_676 : (Jvm.Cond.code ({ cls := "CrossedSheet$Sheet", name := "ownerOf", desc := "(III)I" } : Jvm.MethodName) prog_5_method_25_code (5 : Nat) (Option.some Jvm.ClassFile.FieldType.int)) ∈ TW := TWm 676 (by decide +kernel) (by decide +kernel)
theorem mw_695 : (Jvm.Cond.methodLink "CrossedSheet" (190 : Nat) ({ cls := "CrossedSheet$Reading", name := "lengthOf", desc := "(I)I" } : Jvm.MethodName)) ∈ TW := TWm 695 (by decide +kernel) (by decide +kernel)
theorem mw_705 : (Jvm.Cond.instanceMethod ({ cls := "CrossedSheet$Reading", name := "signAt", desc := "(II)I" } : Jvm.MethodName)) ∈ TW := TWm 705 (by decide +kernel) (by decide +kernel)
theorem mw_706 : (Jvm.Cond.selects "CrossedSheet$Reading" ({ cls := "CrossedSheet$Reading", name := "signAt", desc := "(II)I" } : Jvm.MethodName) ({ cls := "CrossedSheet$Reading", name := "signAt", desc := "(II)I" } : Jvm.MethodName)) ∈ TW := TWm 706 (by decide +kernel) (by decide +kernel)
theorem mw_707 : (Jvm.Cond.code ({ cls := "CrossedSheet$Reading", name := "signAt", desc := "(II)I" } : Jvm.MethodName) prog_4_method_7_code (3 : Nat) (Option.some Jvm.ClassFile.FieldType.int)) ∈ TW := TWm 707 (by decide +kernel) (by decide +kernel)
theorem mw_722 : (Jvm.Cond.methodLink "CrossedSheet" (213 : Nat) ({ cls := "CrossedSheet$History", name := "remember", desc := "(LCrossedSheet$Sheet;)V" } : Jvm.MethodName)) ∈ TW := TWm 722 (by decide +kernel) (by decide +kernel)
theorem mw_723 : (Jvm.Cond.instanceMethod ({ cls := "CrossedSheet$History", name := "remember", desc := "(LCrossedSheet$Sheet;)V" } : Jvm.MethodName)) ∈ TW := TWm 723 (by decide +kernel) (by decide +kernel)
theorem mw_724 : (Jvm.Cond.selects "CrossedSheet$History" ({ cls := "CrossedSheet$History", name := "remember", desc := "(LCrossedSheet$Sheet;)V" } : Jvm.MethodName) ({ cls := "CrossedSheet$History", name := "remember", desc := "(LCrossedSheet$Sheet;)V" } : Jvm.MethodName)) ∈ TW := TWm 724 (by decide +kernel) (by decide +kernel)
theorem mw_725 : (Jvm.Cond.code ({ cls := "CrossedSheet$History", name := "remember", desc := "(LCrossedSheet$Sheet;)V" } : Jvm.MethodName) prog_2_method_2_code (2 : Nat) (Option.none : Option Jvm.ClassFile.FieldType)) ∈ TW := TWm 725 (by decide +kernel) (by decide +kernel)
theorem mw_726 : (Jvm.Cond.methodLink "CrossedSheet$History" (24 : Nat) ({ cls := "CrossedSheet$Shelf", name := "store", desc := "(ILCrossedSheet$Sheet;)V" } : Jvm.MethodName)) ∈ TW := TWm 726 (by decide +kernel) (by decide +kernel)
theorem mw_727 : (Jvm.Cond.instanceMethod ({ cls := "CrossedSheet$Shelf", name := "store", desc := "(ILCrossedSheet$Sheet;)V" } : Jvm.MethodName)) ∈ TW := TWm 727 (by decide +kernel) (by decide +kernel)
theorem mw_728 : (Jvm.Cond.selects "CrossedSheet$Shelf" ({ cls := "CrossedSheet$Shelf", name := "store", desc := "(ILCrossedSheet$Sheet;)V" } : Jvm.MethodName) ({ cls := "CrossedSheet$Shelf", name := "store", desc := "(ILCrossedSheet$Sheet;)V" } : Jvm.MethodName)) ∈ TW := TWm 728 (by decide +kernel) (by decide +kernel)
theorem mw_729 : (Jvm.Cond.code ({ cls := "CrossedSheet$Shelf", name := "store", desc := "(ILCrossedSheet$Sheet;)V" } : Jvm.MethodName) prog_6_method_3_code (4 : Nat) (Option.none : Option Jvm.ClassFile.FieldType)) ∈ TW := TWm 729 (by decide +kernel) (by decide +kernel)
theorem mw_730 : (Jvm.Cond.methodLink "CrossedSheet$Shelf" (29 : Nat) ({ cls := "CrossedSheet$Shelf", name := "sheetAt", desc := "(I)LCrossedSheet$Sheet;" } : Jvm.MethodName)) ∈ TW := TWm 730 (by decide +kernel) (by decide +kernel)
theorem mw_732 : (Jvm.Cond.instanceMethod ({ cls := "CrossedSheet$Shelf", name := "sheetAt", desc := "(I)LCrossedSheet$Sheet;" } : Jvm.MethodName)) ∈ TW := TWm 732 (by decide +kernel) (by decide +kernel)
theorem mw_733 : (Jvm.Cond.code ({ cls := "CrossedSheet$Shelf", name := "sheetAt", desc := "(I)LCrossedSheet$Sheet;" } : Jvm.MethodName) prog_6_method_6_code (2 : Nat) (Option.some (Jvm.ClassFile.FieldType.object "CrossedSheet$Sheet"))) ∈ TW := TWm 733 (by decide +kernel) (by decide +kernel)
theorem mw_734 : (Jvm.Cond.methodLink "CrossedSheet$Shelf" (33 : Nat) ({ cls := "CrossedSheet$Sheet", name := "takeFrom", desc := "(LCrossedSheet$Sheet;)V" } : Jvm.MethodName)) ∈ TW := TWm 734 (by decide +kernel) (by decide +kernel)
theorem mw_735 : (Jvm.Cond.methodLink "CrossedSheet$Shelf" (37 : Nat) ({ cls := "CrossedSheet$Numbers", name := "put", desc := "(II)V" } : Jvm.MethodName)) ∈ TW := TWm 735 (by decide +kernel) (by decide +kernel)
theorem mw_736 : (Jvm.Cond.methodLink "CrossedSheet$History" (31 : Nat) ({ cls := "java/lang/Math", name := "min", desc := "(II)I" } : Jvm.MethodName)) ∈ TW := TWm 736 (by decide +kernel) (by decide +kernel)
theorem mw_746 : (Jvm.Cond.methodLink "CrossedSheet" (223 : Nat) ({ cls := "CrossedSheet$Sheet", name := "otherHasDecision", desc := "(IIII)Z" } : Jvm.MethodName)) ∈ TW := TWm 746 (by decide +kernel) (by decide +kernel)
theorem mw_752 : (Jvm.Cond.methodLink "CrossedSheet" (229 : Nat) ({ cls := "CrossedSheet$Sheet", name := "putDecision", desc := "(IIII)V" } : Jvm.MethodName)) ∈ TW := TWm 752 (by decide +kernel) (by decide +kernel)
theorem mw_753 : (Jvm.Cond.instanceMethod ({ cls := "CrossedSheet$Sheet", name := "putDecision", desc := "(IIII)V" } : Jvm.MethodName)) ∈ TW := TWm 753 (by decide +kernel) (by decide +kernel)
theorem mw_754 : (Jvm.Cond.selects "CrossedSheet$Sheet" ({ cls := "CrossedSheet$Sheet", name := "putDecision", desc := "(IIII)V" } : Jvm.MethodName) ({ cls := "CrossedSheet$Sheet", name := "putDecision", desc := "(IIII)V" } : Jvm.MethodName)) ∈ TW := TWm 754 (by decide +kernel) (by decide +kernel)
theorem mw_755 : (Jvm.Cond.code ({ cls := "CrossedSheet$Sheet", name := "putDecision", desc := "(IIII)V" } : Jvm.MethodName) prog_5_method_18_code (5 : Nat) (Option.none : Option Jvm.ClassFile.FieldType)) ∈ TW := TWm 755 (by decide +kernel) (by decide +kernel)
theorem mw_766 : (Jvm.Cond.methodLink "CrossedSheet" (233 : Nat) ({ cls := "CrossedSheet$Sheet", name := "putLetter", desc := "(IIII)V" } : Jvm.MethodName)) ∈ TW := TWm 766 (by decide +kernel) (by decide +kernel)
theorem mw_793 : (Jvm.Cond.methodLink "CrossedSheet$History" (37 : Nat) ({ cls := "CrossedSheet$Shelf", name := "fetch", desc := "(ILCrossedSheet$Sheet;)V" } : Jvm.MethodName)) ∈ TW := TWm 793 (by decide +kernel) (by decide +kernel)
theorem mw_794 : (Jvm.Cond.instanceMethod ({ cls := "CrossedSheet$Shelf", name := "fetch", desc := "(ILCrossedSheet$Sheet;)V" } : Jvm.MethodName)) ∈ TW := TWm 794 (by decide +kernel) (by decide +kernel)
theorem mw_795 : (Jvm.Cond.selects "CrossedSheet$Shelf" ({ cls := "CrossedSheet$Shelf", name := "fetch", desc := "(ILCrossedSheet$Sheet;)V" } : Jvm.MethodName) ({ cls := "CrossedSheet$Shelf", name := "fetch", desc := "(ILCrossedSheet$Sheet;)V" } : Jvm.MethodName)) ∈ TW := TWm 795 (by decide +kernel) (by decide +kernel)
theorem mw_796 : (Jvm.Cond.code ({ cls := "CrossedSheet$Shelf", name := "fetch", desc := "(ILCrossedSheet$Sheet;)V" } : Jvm.MethodName) prog_6_method_4_code (4 : Nat) (Option.none : Option Jvm.ClassFile.FieldType)) ∈ TW := TWm 796 (by decide +kernel) (by decide +kernel)
theorem mw_797 : (Jvm.Cond.methodLink "CrossedSheet$Shelf" (41 : Nat) ({ cls := "CrossedSheet$Shelf", name := "holds", desc := "(I)Z" } : Jvm.MethodName)) ∈ TW := TWm 797 (by decide +kernel) (by decide +kernel)
theorem mw_798 : (Jvm.Cond.instanceMethod ({ cls := "CrossedSheet$Shelf", name := "holds", desc := "(I)Z" } : Jvm.MethodName)) ∈ TW := TWm 798 (by decide +kernel) (by decide +kernel)
theorem mw_799 : (Jvm.Cond.selects "CrossedSheet$Shelf" ({ cls := "CrossedSheet$Shelf", name := "holds", desc := "(I)Z" } : Jvm.MethodName) ({ cls := "CrossedSheet$Shelf", name := "holds", desc := "(I)Z" } : Jvm.MethodName)) ∈ TW := TWm 799 (by decide +kernel) (by decide +kernel)
theorem mw_800 : (Jvm.Cond.code ({ cls := "CrossedSheet$Shelf", name := "holds", desc := "(I)Z" } : Jvm.MethodName) prog_6_method_2_code (2 : Nat) (Option.some Jvm.ClassFile.FieldType.boolean)) ∈ TW := TWm 800 (by decide +kernel) (by decide +kernel)
theorem mw_801 : (Jvm.Cond.methodLink "CrossedSheet$Shelf" (25 : Nat) ({ cls := "CrossedSheet$Numbers", name := "at", desc := "(I)I" } : Jvm.MethodName)) ∈ TW := TWm 801 (by decide +kernel) (by decide +kernel)
theorem mw_883 : (Jvm.Cond.constantLong "CrossedSheet" (354 : Nat) (100 : Int64)) ∈ TW := TWm 883 (by decide +kernel) (by decide +kernel)
theorem mw_889 : (Jvm.Cond.methodLink "CrossedSheet$Reading" (102 : Nat) ({ cls := "CrossedSheet$Reading", name := "signAt", desc := "(II)I" } : Jvm.MethodName)) ∈ TW := TWm 889 (by decide +kernel) (by decide +kernel)
theorem mw_907 : (Jvm.Cond.methodLink "CrossedSheet" (236 : Nat) ({ cls := "CrossedSheet$Sheet", name := "turnByQuarter", desc := "(LCrossedSheet$Sheet;)V" } : Jvm.MethodName)) ∈ TW := TWm 907 (by decide +kernel) (by decide +kernel)
theorem mw_908 : (Jvm.Cond.instanceMethod ({ cls := "CrossedSheet$Sheet", name := "turnByQuarter", desc := "(LCrossedSheet$Sheet;)V" } : Jvm.MethodName)) ∈ TW := TWm 908 (by decide +kernel) (by decide +kernel)
theorem mw_909 : (Jvm.Cond.selects "CrossedSheet$Sheet" ({ cls := "CrossedSheet$Sheet", name := "turnByQuarter", desc := "(LCrossedSheet$Sheet;)V" } : Jvm.MethodName) ({ cls := "CrossedSheet$Sheet", name := "turnByQuarter", desc := "(LCrossedSheet$Sheet;)V" } : Jvm.MethodName)) ∈ TW := TWm 909 (by decide +kernel) (by decide +kernel)
theorem mw_910 : (Jvm.Cond.code ({ cls := "CrossedSheet$Sheet", name := "turnByQuarter", desc := "(LCrossedSheet$Sheet;)V" } : Jvm.MethodName) prog_5_method_20_code (4 : Nat) (Option.none : Option Jvm.ClassFile.FieldType)) ∈ TW := TWm 910 (by decide +kernel) (by decide +kernel)
theorem mw_931 : (Jvm.Cond.constantLong "CrossedSheet" (356 : Nat) (100000 : Int64)) ∈ TW := TWm 931 (by decide +kernel) (by decide +kernel)
theorem mw_937 : (Jvm.Cond.methodLink "CrossedSheet" (358 : Nat) ({ cls := "CrossedSheet", name := "tryDecide", desc := "(IIII)Z" } : Jvm.MethodName)) ∈ TW := TWm 937 (by decide +kernel) (by decide +kernel)
theorem mw_939 : (Jvm.Cond.instanceMethod ({ cls := "CrossedSheet", name := "tryDecide", desc := "(IIII)Z" } : Jvm.MethodName)) ∈ TW := TWm 939 (by decide +kernel) (by decide +kernel)
theorem mw_940 : (Jvm.Cond.code ({ cls := "CrossedSheet", name := "tryDecide", desc := "(IIII)Z" } : Jvm.MethodName) prog_1_method_47_code (5 : Nat) (Option.some Jvm.ClassFile.FieldType.boolean)) ∈ TW := TWm 940 (by decide +kernel) (by decide +kernel)
theorem mw_941 : (Jvm.Cond.methodLink "CrossedSheet" (361 : Nat) ({ cls := "CrossedSheet", name := "tryErase", desc := "(III)Z" } : Jvm.MethodName)) ∈ TW := TWm 941 (by decide +kernel) (by decide +kernel)
theorem mw_943 : (Jvm.Cond.instanceMethod ({ cls := "CrossedSheet", name := "tryErase", desc := "(III)Z" } : Jvm.MethodName)) ∈ TW := TWm 943 (by decide +kernel) (by decide +kernel)
theorem mw_944 : (Jvm.Cond.code ({ cls := "CrossedSheet", name := "tryErase", desc := "(III)Z" } : Jvm.MethodName) prog_1_method_48_code (4 : Nat) (Option.some Jvm.ClassFile.FieldType.boolean)) ∈ TW := TWm 944 (by decide +kernel) (by decide +kernel)
theorem mw_945 : (Jvm.Cond.methodLink "CrossedSheet" (364 : Nat) ({ cls := "CrossedSheet", name := "trySetLetter", desc := "(IIII)Z" } : Jvm.MethodName)) ∈ TW := TWm 945 (by decide +kernel) (by decide +kernel)
theorem mw_947 : (Jvm.Cond.instanceMethod ({ cls := "CrossedSheet", name := "trySetLetter", desc := "(IIII)Z" } : Jvm.MethodName)) ∈ TW := TWm 947 (by decide +kernel) (by decide +kernel)
theorem mw_948 : (Jvm.Cond.code ({ cls := "CrossedSheet", name := "trySetLetter", desc := "(IIII)Z" } : Jvm.MethodName) prog_1_method_49_code (5 : Nat) (Option.some Jvm.ClassFile.FieldType.boolean)) ∈ TW := TWm 948 (by decide +kernel) (by decide +kernel)
theorem mw_949 : (Jvm.Cond.methodLink "CrossedSheet" (367 : Nat) ({ cls := "CrossedSheet", name := "trySetMargin", desc := "(I)Z" } : Jvm.MethodName)) ∈ TW := TWm 949 (by decide +kernel) (by decide +kernel)
theorem mw_951 : (Jvm.Cond.instanceMethod ({ cls := "CrossedSheet", name := "trySetMargin", desc := "(I)Z" } : Jvm.MethodName)) ∈ TW := TWm 951 (by decide +kernel) (by decide +kernel)
theorem mw_952 : (Jvm.Cond.code ({ cls := "CrossedSheet", name := "trySetMargin", desc := "(I)Z" } : Jvm.MethodName) prog_1_method_50_code (2 : Nat) (Option.some Jvm.ClassFile.FieldType.boolean)) ∈ TW := TWm 952 (by decide +kernel) (by decide +kernel)
theorem mw_953 : (Jvm.Cond.methodLink "CrossedSheet" (370 : Nat) ({ cls := "CrossedSheet", name := "tryTurn", desc := "()Z" } : Jvm.MethodName)) ∈ TW := TWm 953 (by decide +kernel) (by decide +kernel)
theorem mw_955 : (Jvm.Cond.instanceMethod ({ cls := "CrossedSheet", name := "tryTurn", desc := "()Z" } : Jvm.MethodName)) ∈ TW := TWm 955 (by decide +kernel) (by decide +kernel)
theorem mw_956 : (Jvm.Cond.code ({ cls := "CrossedSheet", name := "tryTurn", desc := "()Z" } : Jvm.MethodName) prog_1_method_51_code (1 : Nat) (Option.some Jvm.ClassFile.FieldType.boolean)) ∈ TW := TWm 956 (by decide +kernel) (by decide +kernel)
theorem mw_957 : (Jvm.Cond.methodLink "CrossedSheet" (373 : Nat) ({ cls := "CrossedSheet", name := "letterOrNone", desc := "(I)I" } : Jvm.MethodName)) ∈ TW := TWm 957 (by decide +kernel) (by decide +kernel)
theorem fl_X6_14 : zF RX6 14 6 0 (.object "CrossedSheet$Numbers") true := ⟨RX6, TX6, 12, tyX6, rfl, inTX6, by decide, mw_248, by decide +kernel, tyX6_ok, nmX6, rfl⟩
theorem fl_X6_18 : zF RX6 18 6 1 .int false := ⟨RX6, TX6, 12, tyX6, rfl, inTX6, by decide, mw_249, by decide +kernel, tyX6_ok, nmX6, rfl⟩
theorem fl_X6_25 : zF RX6 25 6 2 (.object "CrossedSheet$TextReader") true := ⟨RX6, TX6, 12, tyX6, rfl, inTX6, by decide, mw_250, by decide +kernel, tyX6_ok, nmX6, rfl⟩
theorem fl_X6_32 : zF RX6 32 6 3 (.object "CrossedSheet$Sheet") true := ⟨RX6, TX6, 12, tyX6, rfl, inTX6, by decide, mw_251, by decide +kernel, tyX6_ok, nmX6, rfl⟩
theorem fl_X6_36 : zF RX6 36 6 4 (.object "CrossedSheet$Sheet") true := ⟨RX6, TX6, 12, tyX6, rfl, inTX6, by decide, mw_252, by decide +kernel, tyX6_ok, nmX6, rfl⟩
theorem fl_X6_39 : zF RX6 39 6 5 (.object "CrossedSheet$Sheet") true := ⟨RX6, TX6, 12, tyX6, rfl, inTX6, by decide, mw_253, by decide +kernel, tyX6_ok, nmX6, rfl⟩
theorem fl_X6_45 : zF RX6 45 6 6 (.object "CrossedSheet$History") true := ⟨RX6, TX6, 12, tyX6, rfl, inTX6, by decide, mw_254, by decide +kernel, tyX6_ok, nmX6, rfl⟩
theorem fl_X6_59 : zF RX6 59 6 8 (.object "CrossedSheet$Reading") true := ⟨RX6, TX6, 12, tyX6, rfl, inTX6, by decide, mw_256, by decide +kernel, tyX6_ok, nmX6, rfl⟩
theorem fl_X6_66 : zF RX6 66 6 10 (.object "CrossedSheet$Numbers") true := ⟨RX6, TX6, 12, tyX6, rfl, inTX6, by decide, mw_258, by decide +kernel, tyX6_ok, nmX6, rfl⟩
theorem fl_X6_69 : zF RX6 69 6 11 (.object "CrossedSheet$Numbers") true := ⟨RX6, TX6, 12, tyX6, rfl, inTX6, by decide, mw_259, by decide +kernel, tyX6_ok, nmX6, rfl⟩
theorem fl_X6_106 : zF RX6 106 3 0 .int false := ⟨RX3, TX3, 12, tyX3, rfl, inTX3, by decide, mw_118, by decide +kernel, tyX3_ok, nmX3, rfl⟩
theorem fl_X6_109 : zF RX6 109 3 1 .int false := ⟨RX3, TX3, 12, tyX3, rfl, inTX3, by decide, mw_122, by decide +kernel, tyX3_ok, nmX3, rfl⟩
theorem fl_X6_118 : zF RX6 118 3 2 .int false := ⟨RX3, TX3, 12, tyX3, rfl, inTX3, by decide, mw_125, by decide +kernel, tyX3_ok, nmX3, rfl⟩
theorem fl_X6_121 : zF RX6 121 3 3 .int false := ⟨RX3, TX3, 12, tyX3, rfl, inTX3, by decide, mw_128, by decide +kernel, tyX3_ok, nmX3, rfl⟩
theorem fl_X0_14 : zF RX0 14 0 2 (.object "CrossedSheet$Shelf") true := ⟨RX0, TX0, 3, tyX0, rfl, inTX0, by decide, mw_199, by decide +kernel, tyX0_ok, nmX0, rfl⟩
theorem fl_X0_20 : zF RX0 20 0 1 .int false := ⟨RX0, TX0, 3, tyX0, rfl, inTX0, by decide, mw_198, by decide +kernel, tyX0_ok, nmX0, rfl⟩
theorem fl_X0_28 : zF RX0 28 0 0 .int false := ⟨RX0, TX0, 3, tyX0, rfl, inTX0, by decide, mw_196, by decide +kernel, tyX0_ok, nmX0, rfl⟩
theorem fl_X4_9 : zF RX4 9 4 0 (.array (.object "CrossedSheet$Sheet")) true := ⟨RX4, TX4, 2, tyX4, rfl, inTX4, by decide, mw_189, by decide +kernel, tyX4_ok, nmX4, rfl⟩
theorem fl_X4_20 : zF RX4 20 4 1 (.object "CrossedSheet$Numbers") true := ⟨RX4, TX4, 2, tyX4, rfl, inTX4, by decide, mw_190, by decide +kernel, tyX4_ok, nmX4, rfl⟩
theorem yv_X0_remember : yX0_remember.cls = RX0 ∧ yX0_remember.cls ≠ "java/lang/invoke/MethodHandle" ∧ yX0_remember.cls ≠ "java/lang/invoke/VarHandle" ∧ (parseMethodDescriptor yX0_remember.desc).map (fun d => d.parameters.length) = some 1 := by decide +kernel
theorem yv_X2_hasNumber : yX2_hasNumber.cls = RX2 ∧ yX2_hasNumber.cls ≠ "java/lang/invoke/MethodHandle" ∧ yX2_hasNumber.cls ≠ "java/lang/invoke/VarHandle" ∧ (parseMethodDescriptor yX2_hasNumber.desc).map (fun d => d.parameters.length) = some 1 := by decide +kernel
theorem yv_X2_lengthOf : yX2_lengthOf.cls = RX2 ∧ yX2_lengthOf.cls ≠ "java/lang/invoke/MethodHandle" ∧ yX2_lengthOf.cls ≠ "java/lang/invoke/VarHandle" ∧ (parseMethodDescriptor yX2_lengthOf.desc).map (fun d => d.parameters.length) = some 1 := by decide +kernel
theorem yv_X2_readLetter : yX2_readLetter.cls = RX2 ∧ yX2_readLetter.cls ≠ "java/lang/invoke/MethodHandle" ∧ yX2_readLetter.cls ≠ "java/lang/invoke/VarHandle" ∧ (parseMethodDescriptor yX2_readLetter.desc).map (fun d => d.parameters.length) = some 3 := by decide +kernel
theorem yv_X2_signAt : yX2_signAt.cls = RX2 ∧ yX2_signAt.cls ≠ "java/lang/invoke/MethodHandle" ∧ yX2_signAt.cls ≠ "java/lang/invoke/VarHandle" ∧ (parseMethodDescriptor yX2_signAt.desc).map (fun d => d.parameters.length) = some 2 := by decide +kernel
theorem yv_X3_countDoubtful : yX3_countDoubtful.cls = RX3 ∧ yX3_countDoubtful.cls ≠ "java/lang/invoke/MethodHandle" ∧ yX3_countDoubtful.cls ≠ "java/lang/invoke/VarHandle" ∧ (parseMethodDescriptor yX3_countDoubtful.desc).map (fun d => d.parameters.length) = some 0 := by decide +kernel
theorem yv_X3_ownerOf : yX3_ownerOf.cls = RX3 ∧ yX3_ownerOf.cls ≠ "java/lang/invoke/MethodHandle" ∧ yX3_ownerOf.cls ≠ "java/lang/invoke/VarHandle" ∧ (parseMethodDescriptor yX3_ownerOf.desc).map (fun d => d.parameters.length) = some 3 := by decide +kernel
theorem yv_X3_putDecision : yX3_putDecision.cls = RX3 ∧ yX3_putDecision.cls ≠ "java/lang/invoke/MethodHandle" ∧ yX3_putDecision.cls ≠ "java/lang/invoke/VarHandle" ∧ (parseMethodDescriptor yX3_putDecision.desc).map (fun d => d.parameters.length) = some 4 := by decide +kernel
theorem yv_X3_removeMark : yX3_removeMark.cls = RX3 ∧ yX3_removeMark.cls ≠ "java/lang/invoke/MethodHandle" ∧ yX3_removeMark.cls ≠ "java/lang/invoke/VarHandle" ∧ (parseMethodDescriptor yX3_removeMark.desc).map (fun d => d.parameters.length) = some 3 := by decide +kernel
theorem yv_X3_turnByQuarter : yX3_turnByQuarter.cls = RX3 ∧ yX3_turnByQuarter.cls ≠ "java/lang/invoke/MethodHandle" ∧ yX3_turnByQuarter.cls ≠ "java/lang/invoke/VarHandle" ∧ (parseMethodDescriptor yX3_turnByQuarter.desc).map (fun d => d.parameters.length) = some 1 := by decide +kernel
theorem yv_X4_fetch : yX4_fetch.cls = RX4 ∧ yX4_fetch.cls ≠ "java/lang/invoke/MethodHandle" ∧ yX4_fetch.cls ≠ "java/lang/invoke/VarHandle" ∧ (parseMethodDescriptor yX4_fetch.desc).map (fun d => d.parameters.length) = some 2 := by decide +kernel
theorem yv_X4_holds : yX4_holds.cls = RX4 ∧ yX4_holds.cls ≠ "java/lang/invoke/MethodHandle" ∧ yX4_holds.cls ≠ "java/lang/invoke/VarHandle" ∧ (parseMethodDescriptor yX4_holds.desc).map (fun d => d.parameters.length) = some 1 := by decide +kernel
theorem yv_X4_sheetAt : yX4_sheetAt.cls = RX4 ∧ yX4_sheetAt.cls ≠ "java/lang/invoke/MethodHandle" ∧ yX4_sheetAt.cls ≠ "java/lang/invoke/VarHandle" ∧ (parseMethodDescriptor yX4_sheetAt.desc).map (fun d => d.parameters.length) = some 1 := by decide +kernel
theorem yv_X4_store : yX4_store.cls = RX4 ∧ yX4_store.cls ≠ "java/lang/invoke/MethodHandle" ∧ yX4_store.cls ≠ "java/lang/invoke/VarHandle" ∧ (parseMethodDescriptor yX4_store.desc).map (fun d => d.parameters.length) = some 2 := by decide +kernel
theorem yv_X5_allows : yX5_allows.cls = RX5 ∧ yX5_allows.cls ≠ "java/lang/invoke/MethodHandle" ∧ yX5_allows.cls ≠ "java/lang/invoke/VarHandle" ∧ (parseMethodDescriptor yX5_allows.desc).map (fun d => d.parameters.length) = some 2 := by decide +kernel
theorem yv_X5_begin : yX5_begin.cls = RX5 ∧ yX5_begin.cls ≠ "java/lang/invoke/MethodHandle" ∧ yX5_begin.cls ≠ "java/lang/invoke/VarHandle" ∧ (parseMethodDescriptor yX5_begin.desc).map (fun d => d.parameters.length) = some 1 := by decide +kernel
theorem yv_X5_mayEnd : yX5_mayEnd.cls = RX5 ∧ yX5_mayEnd.cls ≠ "java/lang/invoke/MethodHandle" ∧ yX5_mayEnd.cls ≠ "java/lang/invoke/VarHandle" ∧ (parseMethodDescriptor yX5_mayEnd.desc).map (fun d => d.parameters.length) = some 0 := by decide +kernel
theorem yv_X5_take : yX5_take.cls = RX5 ∧ yX5_take.cls ≠ "java/lang/invoke/MethodHandle" ∧ yX5_take.cls ≠ "java/lang/invoke/VarHandle" ∧ (parseMethodDescriptor yX5_take.desc).map (fun d => d.parameters.length) = some 2 := by decide +kernel
theorem yv_X6_readPresent : yX6_readPresent.cls = RX6 ∧ yX6_readPresent.cls ≠ "java/lang/invoke/MethodHandle" ∧ yX6_readPresent.cls ≠ "java/lang/invoke/VarHandle" ∧ (parseMethodDescriptor yX6_readPresent.desc).map (fun d => d.parameters.length) = some 1 := by decide +kernel
theorem yv_X6_readText : yX6_readText.cls = RX6 ∧ yX6_readText.cls ≠ "java/lang/invoke/MethodHandle" ∧ yX6_readText.cls ≠ "java/lang/invoke/VarHandle" ∧ (parseMethodDescriptor yX6_readText.desc).map (fun d => d.parameters.length) = some 0 := by decide +kernel
theorem ys_X6_remainder : yX6_remainder.cls ≠ "java/lang/invoke/MethodHandle" ∧ yX6_remainder.cls ≠ "java/lang/invoke/VarHandle" ∧ (parseMethodDescriptor yX6_remainder.desc).map (fun d => d.parameters.length) = some 2 := by decide +kernel
theorem yv_X6_tryDecide : yX6_tryDecide.cls = RX6 ∧ yX6_tryDecide.cls ≠ "java/lang/invoke/MethodHandle" ∧ yX6_tryDecide.cls ≠ "java/lang/invoke/VarHandle" ∧ (parseMethodDescriptor yX6_tryDecide.desc).map (fun d => d.parameters.length) = some 4 := by decide +kernel
theorem yv_X6_tryErase : yX6_tryErase.cls = RX6 ∧ yX6_tryErase.cls ≠ "java/lang/invoke/MethodHandle" ∧ yX6_tryErase.cls ≠ "java/lang/invoke/VarHandle" ∧ (parseMethodDescriptor yX6_tryErase.desc).map (fun d => d.parameters.length) = some 3 := by decide +kernel
theorem yv_X6_trySetLetter : yX6_trySetLetter.cls = RX6 ∧ yX6_trySetLetter.cls ≠ "java/lang/invoke/MethodHandle" ∧ yX6_trySetLetter.cls ≠ "java/lang/invoke/VarHandle" ∧ (parseMethodDescriptor yX6_trySetLetter.desc).map (fun d => d.parameters.length) = some 4 := by decide +kernel
theorem yv_X6_trySetMargin : yX6_trySetMargin.cls = RX6 ∧ yX6_trySetMargin.cls ≠ "java/lang/invoke/MethodHandle" ∧ yX6_trySetMargin.cls ≠ "java/lang/invoke/VarHandle" ∧ (parseMethodDescriptor yX6_trySetMargin.desc).map (fun d => d.parameters.length) = some 1 := by decide +kernel
theorem yv_X6_tryTurn : yX6_tryTurn.cls = RX6 ∧ yX6_tryTurn.cls ≠ "java/lang/invoke/MethodHandle" ∧ yX6_tryTurn.cls ≠ "java/lang/invoke/VarHandle" ∧ (parseMethodDescriptor yX6_tryTurn.desc).map (fun d => d.parameters.length) = some 0 := by decide +kernel
theorem cw_X6_83 : GoodIn TW (wsV RX6 83 RX1 yX1_put (.code yX1_put cX1_put 3 none :: TW)) := zGV mw_507 mw_109 mw_110 mw_27 mw_111
theorem cw_X6_87 : GoodIn TW (wsV RX6 87 RX6 yX6_readText (.code yX6_readText cX6_readText 3 (some .int) :: TW)) := zGV mw_516 mw_518 mw_7 mw_26 mw_519
theorem cw_X6_93 : GoodIn TW (wsV RX6 93 RX3 yX3_takeFrom (.code yX3_takeFrom cX3_takeFrom 2 none :: TW)) := zGV mw_364 mw_365 mw_366 mw_29 mw_367
theorem cw_X6_112 : GoodIn TW (wsV RX6 112 RX3 yX3_countDoubtful (.code yX3_countDoubtful cX3_countDoubtful 4 (some .int) :: TW)) := zGV mw_462 mw_463 mw_464 mw_29 mw_465
theorem cw_X6_127 : GoodIn TW (wsV RX6 127 RX6 yX6_readPresent (.code yX6_readPresent cX6_readPresent 2 (some .int) :: TW)) := zGV mw_597 mw_599 mw_11 mw_26 mw_600
theorem cw_X6_140 : GoodIn TW (wsV RX6 140 RX1 yX1_at (.code yX1_at cX1_at 2 (some .int) :: TW)) := zGV mw_525 mw_396 mw_397 mw_27 mw_398
theorem cw_X6_178 : GoodIn TW (wsV RX6 178 RX3 yX3_ownerOf (.code yX3_ownerOf cX3_ownerOf 5 (some .int) :: TW)) := zGV mw_673 mw_674 mw_675 mw_29 mw_676
theorem cw_X6_190 : GoodIn TW (wsV RX6 190 RX2 yX2_lengthOf (.code yX2_lengthOf cX2_lengthOf 3 (some .int) :: TW)) := zGV mw_695 mw_634 mw_635 mw_32 mw_636
theorem cw_X6_207 : GoodIn TW (wsV RX6 207 RX3 yX3_hasRoom (.code yX3_hasRoom cX3_hasRoom 3 (some .boolean) :: TW)) := zGV mw_384 mw_385 mw_386 mw_29 mw_387
theorem cw_X6_213 : GoodIn TW (wsV RX6 213 RX0 yX0_remember (.code yX0_remember cX0_remember 2 none :: TW)) := zGV mw_722 mw_723 mw_724 mw_30 mw_725
theorem cw_X6_216 : GoodIn TW (wsV RX6 216 RX3 yX3_addMark (.code yX3_addMark cX3_addMark 7 none :: TW)) := zGV mw_420 mw_421 mw_422 mw_29 mw_423
theorem cw_X6_220 : GoodIn TW (wsV RX6 220 RX3 yX3_removeMark (.code yX3_removeMark cX3_removeMark 5 none :: TW)) := zGV mw_399 mw_400 mw_401 mw_29 mw_402
theorem cw_X6_223 : GoodIn TW (wsV RX6 223 RX3 yX3_otherHasDecision (.code yX3_otherHasDecision cX3_otherHasDecision 5 (some .boolean) :: TW)) := zGV mw_746 mw_747 mw_748 mw_29 mw_749
theorem cw_X6_229 : GoodIn TW (wsV RX6 229 RX3 yX3_putDecision (.code yX3_putDecision cX3_putDecision 5 none :: TW)) := zGV mw_752 mw_753 mw_754 mw_29 mw_755
theorem cw_X6_233 : GoodIn TW (wsV RX6 233 RX3 yX3_putLetter (.code yX3_putLetter cX3_putLetter 5 none :: TW)) := zGV mw_766 mw_105 mw_106 mw_29 mw_107
theorem cw_X6_236 : GoodIn TW (wsV RX6 236 RX3 yX3_turnByQuarter (.code yX3_turnByQuarter cX3_turnByQuarter 4 none :: TW)) := zGV mw_907 mw_908 mw_909 mw_29 mw_910
theorem cw_X6_260 : GoodIn TW (wsV RX6 260 RX2 yX2_readLetter (.code yX2_readLetter cX2_readLetter 13 (some .int) :: TW)) := zGV mw_425 mw_426 mw_427 mw_32 mw_428
theorem cw_X6_328 : GoodIn TW (wsV RX6 328 RX3 yX3_hasMark (.code yX3_hasMark cX3_hasMark 4 (some .boolean) :: TW)) := zGV mw_670 mw_404 mw_405 mw_29 mw_406
theorem cw_X6_339 : GoodIn TW (wsV RX6 339 RX5 yX5_begin (.code yX5_begin cX5_begin 2 none :: TW)) := zGV mw_520 mw_521 mw_522 mw_28 mw_523
theorem cw_X6_342 : GoodIn TW (wsV RX6 342 RX5 yX5_allows (.code yX5_allows cX5_allows 4 (some .boolean) :: TW)) := zGV mw_526 mw_527 mw_528 mw_28 mw_529
theorem cw_X6_346 : GoodIn TW (wsV RX6 346 RX5 yX5_take (.code yX5_take cX5_take 4 none :: TW)) := zGV mw_546 mw_547 mw_548 mw_28 mw_549
theorem cw_X6_350 : GoodIn TW (wsV RX6 350 RX5 yX5_mayEnd (.code yX5_mayEnd cX5_mayEnd 1 (some .boolean) :: TW)) := zGV mw_564 mw_565 mw_566 mw_28 mw_567
theorem cw_X6_358 : GoodIn TW (wsV RX6 358 RX6 yX6_tryDecide (.code yX6_tryDecide cX6_tryDecide 5 (some .boolean) :: TW)) := zGV mw_937 mw_939 mw_20 mw_26 mw_940
theorem cw_X6_361 : GoodIn TW (wsV RX6 361 RX6 yX6_tryErase (.code yX6_tryErase cX6_tryErase 4 (some .boolean) :: TW)) := zGV mw_941 mw_943 mw_21 mw_26 mw_944
theorem cw_X6_364 : GoodIn TW (wsV RX6 364 RX6 yX6_trySetLetter (.code yX6_trySetLetter cX6_trySetLetter 5 (some .boolean) :: TW)) := zGV mw_945 mw_947 mw_22 mw_26 mw_948
theorem cw_X6_367 : GoodIn TW (wsV RX6 367 RX6 yX6_trySetMargin (.code yX6_trySetMargin cX6_trySetMargin 2 (some .boolean) :: TW)) := zGV mw_949 mw_951 mw_23 mw_26 mw_952
theorem cw_X6_370 : GoodIn TW (wsV RX6 370 RX6 yX6_tryTurn (.code yX6_tryTurn cX6_tryTurn 1 (some .boolean) :: TW)) := zGV mw_953 mw_955 mw_24 mw_26 mw_956
theorem cw_X6_373 : GoodIn TW (va_wsS RX6 373 yX6_letterOrNone (.code yX6_letterOrNone cX6_letterOrNone 1 (some .int) :: TW)) := zGS mw_957 mw_757 mw_26 mw_758
theorem cw_X6_376 : GoodIn TW (va_wsS RX6 376 yX6_remainder (.code yX6_remainder cX6_remainder 2 (some .int) :: TW)) := zGS mw_381 mw_382 mw_26 mw_383
theorem cw_X0_24 : GoodIn TW (wsV RX0 24 RX4 yX4_store (.code yX4_store cX4_store 4 none :: TW)) := zGV mw_726 mw_727 mw_728 mw_31 mw_729
theorem cw_X0_37 : GoodIn TW (wsV RX0 37 RX4 yX4_fetch (.code yX4_fetch cX4_fetch 4 none :: TW)) := zGV mw_793 mw_794 mw_795 mw_31 mw_796
theorem cw_X2_90 : GoodIn TW (wsV RX2 90 RX2 yX2_hasNumber (.code yX2_hasNumber cX2_hasNumber 2 (some .boolean) :: TW)) := zGV mw_637 mw_638 mw_639 mw_32 mw_640
theorem cw_X2_94 : GoodIn TW (wsV RX2 94 RX2 yX2_lengthOf (.code yX2_lengthOf cX2_lengthOf 3 (some .int) :: TW)) := zGV mw_633 mw_634 mw_635 mw_32 mw_636
theorem cw_X2_102 : GoodIn TW (wsV RX2 102 RX2 yX2_signAt (.code yX2_signAt cX2_signAt 3 (some .int) :: TW)) := zGV mw_889 mw_705 mw_706 mw_32 mw_707
theorem cw_X4_25 : GoodIn TW (wsV RX4 25 RX1 yX1_at (.code yX1_at cX1_at 2 (some .int) :: TW)) := zGV mw_801 mw_396 mw_397 mw_27 mw_398
theorem cw_X4_29 : GoodIn TW (wsV RX4 29 RX4 yX4_sheetAt (.code yX4_sheetAt cX4_sheetAt 2 (some (.object "CrossedSheet$Sheet")) :: TW)) := zGV mw_730 mw_732 mw_15 mw_31 mw_733
theorem cw_X4_33 : GoodIn TW (wsV RX4 33 RX3 yX3_takeFrom (.code yX3_takeFrom cX3_takeFrom 2 none :: TW)) := zGV mw_734 mw_365 mw_366 mw_29 mw_367
theorem cw_X4_37 : GoodIn TW (wsV RX4 37 RX1 yX1_put (.code yX1_put cX1_put 3 none :: TW)) := zGV mw_735 mw_109 mw_110 mw_27 mw_111
theorem cw_X4_41 : GoodIn TW (wsV RX4 41 RX4 yX4_holds (.code yX4_holds cX4_holds 2 (some .boolean) :: TW)) := zGV mw_797 mw_798 mw_799 mw_31 mw_800
theorem cw_X4_45 : GoodIn TW (wsV RX4 45 RX1 yX1_fill (.code yX1_fill cX1_fill 3 none :: TW)) := zGV mw_577 mw_113 mw_114 mw_27 mw_115
theorem dX2_lengthOf_0 : decode cX2_lengthOf 0 = .ok (.aload_n 0, 1) := by decide +kernel
theorem dX2_lengthOf_1 : decode cX2_lengthOf 1 = .ok (.iload_n 1, 1) := by decide +kernel
theorem dX2_lengthOf_2 : decode cX2_lengthOf 2 = .ok (.invokevirtual 90, 3) := by decide +kernel
theorem dX2_lengthOf_5 : decode cX2_lengthOf 5 = .ok (.ifCond .ne 5, 3) := by decide +kernel
theorem dX2_lengthOf_8 : decode cX2_lengthOf 8 = .ok (.iconst 0, 1) := by decide +kernel
theorem dX2_lengthOf_9 : decode cX2_lengthOf 9 = .ok (.ireturn, 1) := by decide +kernel
theorem dX2_lengthOf_10 : decode cX2_lengthOf 10 = .ok (.iload_n 1, 1) := by decide +kernel
theorem dX2_lengthOf_11 : decode cX2_lengthOf 11 = .ok (.iconst 1, 1) := by decide +kernel
theorem dX2_lengthOf_12 : decode cX2_lengthOf 12 = .ok (.iadd, 1) := by decide +kernel
theorem dX2_lengthOf_13 : decode cX2_lengthOf 13 = .ok (.aload_n 0, 1) := by decide +kernel
theorem dX2_lengthOf_14 : decode cX2_lengthOf 14 = .ok (.getfield 26, 3) := by decide +kernel
theorem dX2_lengthOf_17 : decode cX2_lengthOf 17 = .ok (.if_icmp .ge 16, 3) := by decide +kernel
theorem dX2_lengthOf_20 : decode cX2_lengthOf 20 = .ok (.aload_n 0, 1) := by decide +kernel
theorem dX2_lengthOf_21 : decode cX2_lengthOf 21 = .ok (.getfield 23, 3) := by decide +kernel
theorem dX2_lengthOf_24 : decode cX2_lengthOf 24 = .ok (.iload_n 1, 1) := by decide +kernel
theorem dX2_lengthOf_25 : decode cX2_lengthOf 25 = .ok (.iconst 1, 1) := by decide +kernel
theorem dX2_lengthOf_26 : decode cX2_lengthOf 26 = .ok (.iadd, 1) := by decide +kernel
theorem dX2_lengthOf_27 : decode cX2_lengthOf 27 = .ok (.invokevirtual 44, 3) := by decide +kernel
theorem dX2_lengthOf_30 : decode cX2_lengthOf 30 = .ok (.goto 7, 3) := by decide +kernel
theorem dX2_lengthOf_33 : decode cX2_lengthOf 33 = .ok (.aload_n 0, 1) := by decide +kernel
theorem dX2_lengthOf_34 : decode cX2_lengthOf 34 = .ok (.getfield 33, 3) := by decide +kernel
theorem dX2_lengthOf_37 : decode cX2_lengthOf 37 = .ok (.istore_n 2, 1) := by decide +kernel
theorem dX2_lengthOf_38 : decode cX2_lengthOf 38 = .ok (.iload_n 2, 1) := by decide +kernel
theorem dX2_lengthOf_39 : decode cX2_lengthOf 39 = .ok (.aload_n 0, 1) := by decide +kernel
theorem dX2_lengthOf_40 : decode cX2_lengthOf 40 = .ok (.getfield 23, 3) := by decide +kernel
theorem dX2_lengthOf_43 : decode cX2_lengthOf 43 = .ok (.iload_n 1, 1) := by decide +kernel
theorem dX2_lengthOf_44 : decode cX2_lengthOf 44 = .ok (.invokevirtual 44, 3) := by decide +kernel
theorem dX2_lengthOf_47 : decode cX2_lengthOf 47 = .ok (.isub, 1) := by decide +kernel
theorem dX2_lengthOf_48 : decode cX2_lengthOf 48 = .ok (.ireturn, 1) := by decide +kernel
def FX2_lengthOf (T : zT) (a0 : Nat) (p0 : Int32) (h : zH) : Option Int32 := (zo h a0 2).bind fun _ => (FX2_hasNumber T a0 p0 h).bind fun x2 => if x2 = 0 then (some 0) else (zJ (fun (x3 : Int32) => (zgr h a0 2 4).bind fun x5 => (FX1_at T x5 p0 h).bind fun x7 => some (x3 - x7)) (fun J4 => (zgi h a0 2 0).bind fun x8 => if x8 ≤ (p0 + 1) then ((zgi h a0 2 5).bind fun x9 => J4 x9) else ((zgr h a0 2 4).bind fun x10 => (FX1_at T x10 (p0 + 1) h).bind fun x12 => J4 x12)))
set_option maxHeartbeats 4000000 in
set_option maxRecDepth 100000 in
theorem BX2_lengthOf {X : zX} (C : zC X cX2_lengthOf 3 RX2 "lengthOf" (some .int) 1 21) {al : Bool} {hi : Nat} {h : zH} {a0 : Nat} {p0 : Int32} {r9 : Int32} (hf : FX2_lengthOf (xT X) a0 p0 h = some r9) : zW X 3 (zZ X al (some (.int r9), hi, h)) 0 0 al hi h 0 [(0, .ref a0), (1, .int p0)] [] := by
  unfold FX2_lengthOf at hf
  obtain ⟨_, _, hf⟩ := zbind hf
  refine z_aload_n C dX2_lengthOf_0 0 rfl rfl ?_
  refine z_iload_n C dX2_lengthOf_1 1 rfl rfl ?_
  obtain ⟨x2, g1, hf⟩ := zbind hf
  refine z_callV (kc' := 0) (ks' := 0) C (MX2_hasNumber (xl X) (xD X) (xT X) (xlo X) al hi g1) (OX2_hasNumber g1) rfl cw_X2_90 yv_X2_hasNumber dX2_lengthOf_2 rfl (by decide) ⟨rfl, rfl⟩ (Nat.le_of_ble_eq_true rfl) (st := []) rfl ?_
  refine z_if_ne (tgt := 10) C dX2_lengthOf_5 (by decide) hf (fun hf => ?_) (fun hf => ?_)
  · refine z_join (P := fun J => ∀ (x3 : Int32), J x3 = some r9 → zW X 3 (zZ X al (some (.int r9), hi, h)) 0 0 al hi h 37 [(0, .ref a0), (1, .int p0)] [.int x3]) hf ?_ ?_
    · intro x3 hf
      refine z_istore_n C dX2_lengthOf_37 rfl (by decide) (lv' := [(2, .int x3), (0, .ref a0), (1, .int p0)]) rfl ?_
      refine z_iload_n C dX2_lengthOf_38 0 rfl rfl ?_
      refine z_aload_n C dX2_lengthOf_39 1 rfl rfl ?_
      refine z_getR C fl_X2_23 dX2_lengthOf_40 hf (fun x5 hf => ?_)
      refine z_iload_n C dX2_lengthOf_43 2 rfl rfl ?_
      obtain ⟨x7, g6, hf⟩ := zbind hf
      refine z_callV (kc' := 0) (ks' := 0) C (MX1_at (xl X) (xD X) (xT X) (xlo X) al hi g6) (OX1_at g6) rfl cw_X2_44 yv_X1_at dX2_lengthOf_44 rfl (by decide) ⟨rfl, rfl⟩ (Nat.le_of_ble_eq_true rfl) (st := [.int x3]) rfl ?_
      refine z_isub C dX2_lengthOf_47 ?_
      exact z_ireturn C dX2_lengthOf_48 (by cases hf; rfl)
    · intro J4 kJ4 hf
      refine z_iload_n C dX2_lengthOf_10 1 rfl rfl ?_
      refine z_iconst C (v := 1) dX2_lengthOf_11 (by decide) ?_
      refine z_iadd C dX2_lengthOf_12 ?_
      refine z_aload_n C dX2_lengthOf_13 0 rfl rfl ?_
      refine z_getI C fl_X2_26 dX2_lengthOf_14 hf (fun x8 hf => ?_)
      refine z_icmp_ge (tgt := 33) C dX2_lengthOf_17 (by decide) hf (fun hf => ?_) (fun hf => ?_)
      · refine z_aload_n C dX2_lengthOf_33 0 rfl rfl ?_
        refine z_getI C fl_X2_33 dX2_lengthOf_34 hf (fun x9 hf => ?_)
        exact kJ4 _ hf
      · refine z_aload_n C dX2_lengthOf_20 0 rfl rfl ?_
        refine z_getR C fl_X2_23 dX2_lengthOf_21 hf (fun x10 hf => ?_)
        refine z_iload_n C dX2_lengthOf_24 1 rfl rfl ?_
        refine z_iconst C (v := 1) dX2_lengthOf_25 (by decide) ?_
        refine z_iadd C dX2_lengthOf_26 ?_
        obtain ⟨x12, g11, hf⟩ := zbind hf
        refine z_callV (kc' := 0) (ks' := 0) C (MX1_at (xl X) (xD X) (xT X) (xlo X) al hi g11) (OX1_at g11) rfl cw_X2_44 yv_X1_at dX2_lengthOf_27 rfl (by decide) ⟨rfl, rfl⟩ (Nat.le_of_ble_eq_true rfl) (st := []) rfl ?_
        refine z_goto (tgt := 37) C dX2_lengthOf_30 (by decide) ?_
        exact kJ4 _ hf
  · refine z_iconst C (v := 0) dX2_lengthOf_8 (by decide) ?_
    exact z_ireturn C dX2_lengthOf_9 (by cases hf; rfl)
theorem MX2_lengthOf (l : Launch) (D : va_G) (T : zT) (lo : Nat) (al : Bool) (hi : Nat) {h : zH} {a0 : Nat} {p0 : Int32} {v9 : Int32} (hf : FX2_lengthOf T a0 p0 h = some v9) : zM l yX2_lengthOf (.code yX2_lengthOf cX2_lengthOf 3 (some .int) :: TW) ({ frames := 1, cells := 0, slots := 0, locals := 21 } : Room) D T lo al [.ref a0, .int p0] hi h (some (.int v9), hi, h) :=
  z_enter (own := RX2) (nm := "lengthOf") (lv := [(0, .ref a0), (1, .int p0)]) (by decide +kernel) rfl rfl (Nat.le_of_ble_eq_true rfl) rfl (fun _ _ _ _ _ _ _ _ C => BX2_lengthOf C hf)
theorem OX2_lengthOf {T : zT} {h : zH} {a0 : Nat} {p0 : Int32} {r9 : Int32} (hf : FX2_lengthOf T a0 p0 h = some r9) : ∃ fs, h a0 = some (.inr (2, fs)) := by
  obtain ⟨_, h1, _⟩ := zbind hf
  exact zo_obj h1
theorem dX2_signAt_0 : decode cX2_signAt 0 = .ok (.iload_n 2, 1) := by decide +kernel
theorem dX2_signAt_1 : decode cX2_signAt 1 = .ok (.ifCond .lt 32, 3) := by decide +kernel
theorem dX2_signAt_4 : decode cX2_signAt 4 = .ok (.iload_n 2, 1) := by decide +kernel
theorem dX2_signAt_5 : decode cX2_signAt 5 = .ok (.aload_n 0, 1) := by decide +kernel
theorem dX2_signAt_6 : decode cX2_signAt 6 = .ok (.iload_n 1, 1) := by decide +kernel
theorem dX2_signAt_7 : decode cX2_signAt 7 = .ok (.invokevirtual 94, 3) := by decide +kernel
theorem dX2_signAt_10 : decode cX2_signAt 10 = .ok (.if_icmp .ge 23, 3) := by decide +kernel
theorem dX2_signAt_13 : decode cX2_signAt 13 = .ok (.aload_n 0, 1) := by decide +kernel
theorem dX2_signAt_14 : decode cX2_signAt 14 = .ok (.getfield 20, 3) := by decide +kernel
theorem dX2_signAt_17 : decode cX2_signAt 17 = .ok (.aload_n 0, 1) := by decide +kernel
theorem dX2_signAt_18 : decode cX2_signAt 18 = .ok (.getfield 23, 3) := by decide +kernel
theorem dX2_signAt_21 : decode cX2_signAt 21 = .ok (.iload_n 1, 1) := by decide +kernel
theorem dX2_signAt_22 : decode cX2_signAt 22 = .ok (.invokevirtual 44, 3) := by decide +kernel
theorem dX2_signAt_25 : decode cX2_signAt 25 = .ok (.iload_n 2, 1) := by decide +kernel
theorem dX2_signAt_26 : decode cX2_signAt 26 = .ok (.iadd, 1) := by decide +kernel
theorem dX2_signAt_27 : decode cX2_signAt 27 = .ok (.invokevirtual 44, 3) := by decide +kernel
theorem dX2_signAt_30 : decode cX2_signAt 30 = .ok (.goto 5, 3) := by decide +kernel
theorem dX2_signAt_33 : decode cX2_signAt 33 = .ok (.bipush (-9), 2) := by decide +kernel
theorem dX2_signAt_35 : decode cX2_signAt 35 = .ok (.ireturn, 1) := by decide +kernel
def FX2_signAt (T : zT) (a0 : Nat) (p0 : Int32) (p1 : Int32) (h : zH) : Option Int32 := (zo h a0 2).bind fun _ => zJ (fun (x1 : Int32) => some x1) (fun J2 => zJ (fun (u9 : Unit) => J2 (-9 : Int32)) (fun J3 => if p1 < 0 then (J3 ()) else ((FX2_lengthOf T a0 p0 h).bind fun x5 => if x5 ≤ p1 then (J3 ()) else ((zgr h a0 2 3).bind fun x6 => (zgr h a0 2 4).bind fun x7 => (FX1_at T x7 p0 h).bind fun x9 => (FX1_at T x6 (x9 + p1) h).bind fun x11 => J2 x11))))
set_option maxHeartbeats 4000000 in
set_option maxRecDepth 100000 in
theorem BX2_signAt {X : zX} (C : zC X cX2_signAt 3 RX2 "signAt" (some .int) 2 43) {al : Bool} {hi : Nat} {h : zH} {a0 : Nat} {p0 : Int32} {p1 : Int32} {r9 : Int32} (hf : FX2_signAt (xT X) a0 p0 p1 h = some r9) : zW X 3 (zZ X al (some (.int r9), hi, h)) 0 0 al hi h 0 [(0, .ref a0), (1, .int p0), (2, .int p1)] [] := by
  unfold FX2_signAt at hf
  obtain ⟨_, _, hf⟩ := zbind hf
  refine z_join (P := fun J => ∀ (x1 : Int32), J x1 = some r9 → zW X 3 (zZ X al (some (.int r9), hi, h)) 0 0 al hi h 35 [] [.int x1]) hf ?_ ?_
  · intro x1 hf
    exact z_ireturn C dX2_signAt_35 (by cases hf; rfl)
  · intro J2 kJ2 hf
    refine z_join (P := fun J => ∀ (u9 : Unit), J u9 = some r9 → zW X 3 (zZ X al (some (.int r9), hi, h)) 0 0 al hi h 33 [] []) hf ?_ ?_
    · intro u9 hf
      refine z_bipush C (v := (-9 : Int32)) dX2_signAt_33 (by decide) ?_
      exact kJ2 _ hf
    · intro J3 kJ3 hf
      refine z_iload_n C dX2_signAt_0 2 rfl rfl ?_
      refine z_if_lt (tgt := 33) C dX2_signAt_1 (by decide) hf (fun hf => ?_) (fun hf => ?_)
      · refine z_sub [] rfl ?_
        exact kJ3 _ hf
      · refine z_iload_n C dX2_signAt_4 2 rfl rfl ?_
        refine z_aload_n C dX2_signAt_5 0 rfl rfl ?_
        refine z_iload_n C dX2_signAt_6 1 rfl rfl ?_
        obtain ⟨x5, g4, hf⟩ := zbind hf
        refine z_callV (kc' := 0) (ks' := 0) C (MX2_lengthOf (xl X) (xD X) (xT X) (xlo X) al hi g4) (OX2_lengthOf g4) rfl cw_X2_94 yv_X2_lengthOf dX2_signAt_7 rfl (by decide) ⟨rfl, rfl⟩ (Nat.le_of_ble_eq_true rfl) (st := [.int p1]) rfl ?_
        refine z_icmp_ge (tgt := 33) C dX2_signAt_10 (by decide) hf (fun hf => ?_) (fun hf => ?_)
        · refine z_sub [] rfl ?_
          exact kJ3 _ hf
        · refine z_aload_n C dX2_signAt_13 0 rfl rfl ?_
          refine z_getR C fl_X2_20 dX2_signAt_14 hf (fun x6 hf => ?_)
          refine z_aload_n C dX2_signAt_17 0 rfl rfl ?_
          refine z_getR C fl_X2_23 dX2_signAt_18 hf (fun x7 hf => ?_)
          refine z_iload_n C dX2_signAt_21 1 rfl rfl ?_
          obtain ⟨x9, g8, hf⟩ := zbind hf
          refine z_callV (kc' := 0) (ks' := 0) C (MX1_at (xl X) (xD X) (xT X) (xlo X) al hi g8) (OX1_at g8) rfl cw_X2_44 yv_X1_at dX2_signAt_22 rfl (by decide) ⟨rfl, rfl⟩ (Nat.le_of_ble_eq_true rfl) (st := [.ref x6]) rfl ?_
          refine z_iload_n C dX2_signAt_25 2 rfl rfl ?_
          refine z_iadd C dX2_signAt_26 ?_
          obtain ⟨x11, g10, hf⟩ := zbind hf
          refine z_callV (kc' := 0) (ks' := 0) C (MX1_at (xl X) (xD X) (xT X) (xlo X) al hi g10) (OX1_at g10) rfl cw_X2_44 yv_X1_at dX2_signAt_27 rfl (by decide) ⟨rfl, rfl⟩ (Nat.le_of_ble_eq_true rfl) (st := []) rfl ?_
          refine z_goto (tgt := 35) C dX2_signAt_30 (by decide) ?_
          refine z_sub [] rfl ?_
          exact kJ2 _ hf
theorem MX2_signAt (l : Launch) (D : va_G) (T : zT) (lo : Nat) (al : Bool) (hi : Nat) {h : zH} {a0 : Nat} {p0 : Int32} {p1 : Int32} {v9 : Int32} (hf : FX2_signAt T a0 p0 p1 h = some v9) : zM l yX2_signAt (.code yX2_signAt cX2_signAt 3 (some .int) :: TW) ({ frames := 2, cells := 0, slots := 0, locals := 43 } : Room) D T lo al [.ref a0, .int p0, .int p1] hi h (some (.int v9), hi, h) :=
  z_enter (own := RX2) (nm := "signAt") (lv := [(0, .ref a0), (1, .int p0), (2, .int p1)]) (by decide +kernel) rfl rfl (Nat.le_of_ble_eq_true rfl) rfl (fun _ _ _ _ _ _ _ _ C => BX2_signAt C hf)
theorem OX2_signAt {T : zT} {h : zH} {a0 : Nat} {p0 : Int32} {p1 : Int32} {r9 : Int32} (hf : FX2_signAt T a0 p0 p1 h = some r9) : ∃ fs, h a0 = some (.inr (2, fs)) := by
  obtain ⟨_, h1, _⟩ := zbind hf
  exact zo_obj h1
theorem dX2_longest_0 : decode cX2_longest 0 = .ok (.iconst 0, 1) := by decide +kernel
theorem dX2_longest_1 : decode cX2_longest 1 = .ok (.istore_n 1, 1) := by decide +kernel
theorem dX2_longest_2 : decode cX2_longest 2 = .ok (.iconst 0, 1) := by decide +kernel
theorem dX2_longest_3 : decode cX2_longest 3 = .ok (.istore_n 2, 1) := by decide +kernel
theorem dX2_longest_4 : decode cX2_longest 4 = .ok (.iload_n 2, 1) := by decide +kernel
theorem dX2_longest_5 : decode cX2_longest 5 = .ok (.aload_n 0, 1) := by decide +kernel
theorem dX2_longest_6 : decode cX2_longest 6 = .ok (.getfield 26, 3) := by decide +kernel
theorem dX2_longest_9 : decode cX2_longest 9 = .ok (.if_icmp .ge 19, 3) := by decide +kernel
theorem dX2_longest_12 : decode cX2_longest 12 = .ok (.iload_n 1, 1) := by decide +kernel
theorem dX2_longest_13 : decode cX2_longest 13 = .ok (.aload_n 0, 1) := by decide +kernel
theorem dX2_longest_14 : decode cX2_longest 14 = .ok (.iload_n 2, 1) := by decide +kernel
theorem dX2_longest_15 : decode cX2_longest 15 = .ok (.invokevirtual 94, 3) := by decide +kernel
theorem dX2_longest_18 : decode cX2_longest 18 = .ok (.invokestatic 97, 3) := by decide +kernel
theorem dX2_longest_21 : decode cX2_longest 21 = .ok (.istore_n 1, 1) := by decide +kernel
theorem dX2_longest_22 : decode cX2_longest 22 = .ok (.iinc 2 1, 3) := by decide +kernel
theorem dX2_longest_25 : decode cX2_longest 25 = .ok (.goto (-21), 3) := by decide +kernel
theorem dX2_longest_28 : decode cX2_longest 28 = .ok (.iload_n 1, 1) := by decide +kernel
theorem dX2_longest_29 : decode cX2_longest 29 = .ok (.ireturn, 1) := by decide +kernel
def LX2_longest_4 {ρ : Type} (T : zT) (h4 : zH) (x1 : Nat) (K0 : Int32 → Option ρ) : Nat → Int32 → Int32 → Option ρ
  | 0, _, _ => none
  | k + 1, x2, x3 => (zgi h4 x1 2 0).bind fun x5 => if x5 ≤ x3 then (K0 x2) else ((FX2_lengthOf T x1 x3 h4).bind fun x7 => LX2_longest_4 T h4 x1 K0 k (if x2 < x7 then x7 else x2) (x3 + 1))
set_option maxHeartbeats 4000000 in
set_option maxRecDepth 100000 in
theorem LX2_longest_4_ok {X : zX} (C : zC X cX2_longest 3 RX2 "longest" (some .int) 2 43) {Z : State → Prop} {al : Bool} {hi : Nat} {ρ : Type} {r9 : ρ} {h4 : zH} {x1 : Nat} {K0 : Int32 → Option ρ} (hK0 : ∀ (y1 : Int32), K0 y1 = some r9 → zW X 3 Z 0 0 al hi h4 28 [(1, .int y1)] []) : ∀ (k : Nat) (x2 : Int32) (x3 : Int32), LX2_longest_4 (xT X) h4 x1 K0 k x2 x3 = some r9 → zW X 3 Z 0 0 al hi h4 4 [(0, .ref x1), (1, .int x2), (2, .int x3)] [] := by
  intro k
  induction k with
  | zero =>
    intro x2 x3 hf
    have hf : none = some r9 := hf
    cases hf
  | succ k ih =>
    intro x2 x3 hf
    rw [LX2_longest_4.eq_2] at hf
    refine z_iload_n C dX2_longest_4 2 rfl rfl ?_
    refine z_aload_n C dX2_longest_5 0 rfl rfl ?_
    refine z_getI C fl_X2_26 dX2_longest_6 hf (fun x5 hf => ?_)
    refine z_icmp_ge (tgt := 28) C dX2_longest_9 (by decide) hf (fun hf => ?_) (fun hf => ?_)
    · refine z_sub [1] rfl ?_
      exact hK0 _ hf
    · refine z_iload_n C dX2_longest_12 1 rfl rfl ?_
      refine z_aload_n C dX2_longest_13 0 rfl rfl ?_
      refine z_iload_n C dX2_longest_14 2 rfl rfl ?_
      obtain ⟨x7, g6, hf⟩ := zbind hf
      refine z_callV (kc' := 0) (ks' := 0) C (MX2_lengthOf (xl X) (xD X) (xT X) (xlo X) al hi g6) (OX2_lengthOf g6) rfl cw_X2_94 yv_X2_lengthOf dX2_longest_15 rfl (by decide) ⟨rfl, rfl⟩ (Nat.le_of_ble_eq_true rfl) (st := [.int x2]) rfl ?_
      refine z_max C mw_641 mw_maxs mw_mathi mw_maxc dX2_longest_18 ⟨Nat.le_of_ble_eq_true rfl, Nat.le_of_ble_eq_true rfl⟩ ?_
      refine z_istore_n C dX2_longest_21 rfl (by decide) (lv' := [(1, .int (if x2 < x7 then x7 else x2)), (0, .ref x1), (2, .int x3)]) rfl ?_
      refine z_iinc C dX2_longest_22 (k := 2) (d := 1) rfl (by decide) (by decide) (lv' := [(2, .int (x3 + 1)), (1, .int (if x2 < x7 then x7 else x2)), (0, .ref x1)]) rfl ?_
      refine z_goto (tgt := 4) C dX2_longest_25 (by decide) ?_
      refine z_sub [2, 1, 0] rfl ?_
      exact ih _ _ hf
def FX2_longest (T : zT) (a0 : Nat) (h : zH) : Option Int32 := (zo h a0 2).bind fun _ => LX2_longest_4 T h a0 (fun (x8 : Int32) => some x8) FUEL 0 0
set_option maxHeartbeats 4000000 in
set_option maxRecDepth 100000 in
theorem BX2_longest {X : zX} (C : zC X cX2_longest 3 RX2 "longest" (some .int) 2 43) {al : Bool} {hi : Nat} {h : zH} {a0 : Nat} {r9 : Int32} (hf : FX2_longest (xT X) a0 h = some r9) : zW X 3 (zZ X al (some (.int r9), hi, h)) 0 0 al hi h 0 [(0, .ref a0)] [] := by
  unfold FX2_longest at hf
  obtain ⟨_, _, hf⟩ := zbind hf
  refine z_iconst C (v := 0) dX2_longest_0 (by decide) ?_
  refine z_istore_n C dX2_longest_1 rfl (by decide) (lv' := [(1, .int 0), (0, .ref a0)]) rfl ?_
  refine z_iconst C (v := 0) dX2_longest_2 (by decide) ?_
  refine z_istore_n C dX2_longest_3 rfl (by decide) (lv' := [(2, .int 0), (1, .int 0), (0, .ref a0)]) rfl ?_
  refine z_sub [2, 1, 0] rfl ?_
  refine LX2_longest_4_ok C ?_ FUEL _ _ hf
  · intro x8 hf
    refine z_iload_n C dX2_longest_28 0 rfl rfl ?_
    exact z_ireturn C dX2_longest_29 (by cases hf; rfl)
theorem MX2_longest (l : Launch) (D : va_G) (T : zT) (lo : Nat) (al : Bool) (hi : Nat) {h : zH} {a0 : Nat} {v9 : Int32} (hf : FX2_longest T a0 h = some v9) : zM l yX2_longest (.code yX2_longest cX2_longest 3 (some .int) :: TW) ({ frames := 2, cells := 0, slots := 0, locals := 43 } : Room) D T lo al [.ref a0] hi h (some (.int v9), hi, h) :=
  z_enter (own := RX2) (nm := "longest") (lv := [(0, .ref a0)]) (by decide +kernel) rfl rfl (Nat.le_of_ble_eq_true rfl) rfl (fun _ _ _ _ _ _ _ _ C => BX2_longest C hf)
theorem OX2_longest {T : zT} {h : zH} {a0 : Nat} {r9 : Int32} (hf : FX2_longest T a0 h = some r9) : ∃ fs, h a0 = some (.inr (2, fs)) := by
  obtain ⟨_, h1, _⟩ := zbind hf
  exact zo_obj h1
theorem dX2_countSign_0 : decode cX2_countSign 0 = .ok (.iconst 0, 1) := by decide +kernel
theorem dX2_countSign_1 : decode cX2_countSign 1 = .ok (.istore_n 2, 1) := by decide +kernel
theorem dX2_countSign_2 : decode cX2_countSign 2 = .ok (.iconst 0, 1) := by decide +kernel
theorem dX2_countSign_3 : decode cX2_countSign 3 = .ok (.istore_n 3, 1) := by decide +kernel
theorem dX2_countSign_4 : decode cX2_countSign 4 = .ok (.iload_n 3, 1) := by decide +kernel
theorem dX2_countSign_5 : decode cX2_countSign 5 = .ok (.aload_n 0, 1) := by decide +kernel
theorem dX2_countSign_6 : decode cX2_countSign 6 = .ok (.getfield 33, 3) := by decide +kernel
theorem dX2_countSign_9 : decode cX2_countSign 9 = .ok (.if_icmp .ge 29, 3) := by decide +kernel
theorem dX2_countSign_12 : decode cX2_countSign 12 = .ok (.iload_n 2, 1) := by decide +kernel
theorem dX2_countSign_13 : decode cX2_countSign 13 = .ok (.aload_n 0, 1) := by decide +kernel
theorem dX2_countSign_14 : decode cX2_countSign 14 = .ok (.getfield 20, 3) := by decide +kernel
theorem dX2_countSign_17 : decode cX2_countSign 17 = .ok (.iload_n 3, 1) := by decide +kernel
theorem dX2_countSign_18 : decode cX2_countSign 18 = .ok (.invokevirtual 44, 3) := by decide +kernel
theorem dX2_countSign_21 : decode cX2_countSign 21 = .ok (.iload_n 1, 1) := by decide +kernel
theorem dX2_countSign_22 : decode cX2_countSign 22 = .ok (.if_icmp .ne 7, 3) := by decide +kernel
theorem dX2_countSign_25 : decode cX2_countSign 25 = .ok (.iconst 1, 1) := by decide +kernel
theorem dX2_countSign_26 : decode cX2_countSign 26 = .ok (.goto 4, 3) := by decide +kernel
theorem dX2_countSign_29 : decode cX2_countSign 29 = .ok (.iconst 0, 1) := by decide +kernel
theorem dX2_countSign_30 : decode cX2_countSign 30 = .ok (.iadd, 1) := by decide +kernel
theorem dX2_countSign_31 : decode cX2_countSign 31 = .ok (.istore_n 2, 1) := by decide +kernel
theorem dX2_countSign_32 : decode cX2_countSign 32 = .ok (.iinc 3 1, 3) := by decide +kernel
theorem dX2_countSign_35 : decode cX2_countSign 35 = .ok (.goto (-31), 3) := by decide +kernel
theorem dX2_countSign_38 : decode cX2_countSign 38 = .ok (.iload_n 2, 1) := by decide +kernel
theorem dX2_countSign_39 : decode cX2_countSign 39 = .ok (.ireturn, 1) := by decide +kernel
def LX2_countSign_4 {ρ : Type} (T : zT) (h5 : zH) (x1 : Nat) (x2 : Int32) (K0 : Int32 → Option ρ) : Nat → Int32 → Int32 → Option ρ
  | 0, _, _ => none
  | k + 1, x3, x4 => (zgi h5 x1 2 5).bind fun x6 => if x6 ≤ x4 then (K0 x3) else (zJ (fun (x7 : Int32) (x8 : Int32) => LX2_countSign_4 T h5 x1 x2 K0 k (x8 + x7) (x4 + 1)) (fun J9 => (zgr h5 x1 2 3).bind fun x10 => (FX1_at T x10 x4 h5).bind fun x12 => if x12 = x2 then (J9 1 x3) else (J9 0 x3)))
set_option maxHeartbeats 4000000 in
set_option maxRecDepth 100000 in
theorem LX2_countSign_4_ok {X : zX} (C : zC X cX2_countSign 4 RX2 "countSign" (some .int) 1 21) {Z : State → Prop} {al : Bool} {hi : Nat} {ρ : Type} {r9 : ρ} {h5 : zH} {x1 : Nat} {x2 : Int32} {K0 : Int32 → Option ρ} (hK0 : ∀ (y2 : Int32), K0 y2 = some r9 → zW X 4 Z 0 0 al hi h5 38 [(2, .int y2)] []) : ∀ (k : Nat) (x3 : Int32) (x4 : Int32), LX2_countSign_4 (xT X) h5 x1 x2 K0 k x3 x4 = some r9 → zW X 4 Z 0 0 al hi h5 4 [(0, .ref x1), (1, .int x2), (2, .int x3), (3, .int x4)] [] := by
  intro k
  induction k with
  | zero =>
    intro x3 x4 hf
    have hf : none = some r9 := hf
    cases hf
  | succ k ih =>
    intro x3 x4 hf
    rw [LX2_countSign_4.eq_2] at hf
    refine z_iload_n C dX2_countSign_4 3 rfl rfl ?_
    refine z_aload_n C dX2_countSign_5 0 rfl rfl ?_
    refine z_getI C fl_X2_33 dX2_countSign_6 hf (fun x6 hf => ?_)
    refine z_icmp_ge (tgt := 38) C dX2_countSign_9 (by decide) hf (fun hf => ?_) (fun hf => ?_)
    · refine z_sub [2] rfl ?_
      exact hK0 _ hf
    · refine z_join (P := fun J => ∀ (x7 : Int32) (x8 : Int32), J x7 x8 = some r9 → zW X 4 Z 0 0 al hi h5 30 [(0, .ref x1), (1, .int x2), (3, .int x4)] [.int x7, .int x8]) hf ?_ ?_
      · intro x7 x8 hf
        refine z_iadd C dX2_countSign_30 ?_
        refine z_istore_n C dX2_countSign_31 rfl (by decide) (lv' := [(2, .int (x8 + x7)), (0, .ref x1), (1, .int x2), (3, .int x4)]) rfl ?_
        refine z_iinc C dX2_countSign_32 (k := 3) (d := 1) rfl (by decide) (by decide) (lv' := [(3, .int (x4 + 1)), (2, .int (x8 + x7)), (0, .ref x1), (1, .int x2)]) rfl ?_
        refine z_goto (tgt := 4) C dX2_countSign_35 (by decide) ?_
        refine z_sub [2, 3, 1, 0] rfl ?_
        exact ih _ _ hf
      · intro J9 kJ9 hf
        refine z_iload_n C dX2_countSign_12 2 rfl rfl ?_
        refine z_aload_n C dX2_countSign_13 0 rfl rfl ?_
        refine z_getR C fl_X2_20 dX2_countSign_14 hf (fun x10 hf => ?_)
        refine z_iload_n C dX2_countSign_17 3 rfl rfl ?_
        obtain ⟨x12, g11, hf⟩ := zbind hf
        refine z_callV (kc' := 0) (ks' := 0) C (MX1_at (xl X) (xD X) (xT X) (xlo X) al hi g11) (OX1_at g11) rfl cw_X2_44 yv_X1_at dX2_countSign_18 rfl (by decide) ⟨rfl, rfl⟩ (Nat.le_of_ble_eq_true rfl) (st := [.int x3]) rfl ?_
        refine z_iload_n C dX2_countSign_21 1 rfl rfl ?_
        refine z_icmp_ne (tgt := 29) C dX2_countSign_22 (by decide) hf (fun hf => ?_) (fun hf => ?_)
        · refine z_iconst C (v := 0) dX2_countSign_29 (by decide) ?_
          refine z_sub [0, 1, 3] rfl ?_
          exact kJ9 _ _ hf
        · refine z_iconst C (v := 1) dX2_countSign_25 (by decide) ?_
          refine z_goto (tgt := 30) C dX2_countSign_26 (by decide) ?_
          refine z_sub [0, 1, 3] rfl ?_
          exact kJ9 _ _ hf
def FX2_countSign (T : zT) (a0 : Nat) (p0 : Int32) (h : zH) : Option Int32 := (zo h a0 2).bind fun _ => LX2_countSign_4 T h a0 p0 (fun (x13 : Int32) => some x13) FUEL 0 0
set_option maxHeartbeats 4000000 in
set_option maxRecDepth 100000 in
theorem BX2_countSign {X : zX} (C : zC X cX2_countSign 4 RX2 "countSign" (some .int) 1 21) {al : Bool} {hi : Nat} {h : zH} {a0 : Nat} {p0 : Int32} {r9 : Int32} (hf : FX2_countSign (xT X) a0 p0 h = some r9) : zW X 4 (zZ X al (some (.int r9), hi, h)) 0 0 al hi h 0 [(0, .ref a0), (1, .int p0)] [] := by
  unfold FX2_countSign at hf
  obtain ⟨_, _, hf⟩ := zbind hf
  refine z_iconst C (v := 0) dX2_countSign_0 (by decide) ?_
  refine z_istore_n C dX2_countSign_1 rfl (by decide) (lv' := [(2, .int 0), (0, .ref a0), (1, .int p0)]) rfl ?_
  refine z_iconst C (v := 0) dX2_countSign_2 (by decide) ?_
  refine z_istore_n C dX2_countSign_3 rfl (by decide) (lv' := [(3, .int 0), (2, .int 0), (0, .ref a0), (1, .int p0)]) rfl ?_
  refine z_sub [2, 3, 1, 0] rfl ?_
  refine LX2_countSign_4_ok C ?_ FUEL _ _ hf
  · intro x13 hf
    refine z_iload_n C dX2_countSign_38 0 rfl rfl ?_
    exact z_ireturn C dX2_countSign_39 (by cases hf; rfl)
theorem MX2_countSign (l : Launch) (D : va_G) (T : zT) (lo : Nat) (al : Bool) (hi : Nat) {h : zH} {a0 : Nat} {p0 : Int32} {v9 : Int32} (hf : FX2_countSign T a0 p0 h = some v9) : zM l yX2_countSign (.code yX2_countSign cX2_countSign 4 (some .int) :: TW) ({ frames := 1, cells := 0, slots := 0, locals := 21 } : Room) D T lo al [.ref a0, .int p0] hi h (some (.int v9), hi, h) :=
  z_enter (own := RX2) (nm := "countSign") (lv := [(0, .ref a0), (1, .int p0)]) (by decide +kernel) rfl rfl (Nat.le_of_ble_eq_true rfl) rfl (fun _ _ _ _ _ _ _ _ C => BX2_countSign C hf)
theorem OX2_countSign {T : zT} {h : zH} {a0 : Nat} {p0 : Int32} {r9 : Int32} (hf : FX2_countSign T a0 p0 h = some r9) : ∃ fs, h a0 = some (.inr (2, fs)) := by
  obtain ⟨_, h1, _⟩ := zbind hf
  exact zo_obj h1
theorem dX2_beginsWith_0 : decode cX2_beginsWith 0 = .ok (.iconst 0, 1) := by decide +kernel
theorem dX2_beginsWith_1 : decode cX2_beginsWith 1 = .ok (.istore 4, 2) := by decide +kernel
theorem dX2_beginsWith_3 : decode cX2_beginsWith 3 = .ok (.iload 4, 2) := by decide +kernel
theorem dX2_beginsWith_5 : decode cX2_beginsWith 5 = .ok (.iload_n 3, 1) := by decide +kernel
theorem dX2_beginsWith_6 : decode cX2_beginsWith 6 = .ok (.if_icmp .ge 27, 3) := by decide +kernel
theorem dX2_beginsWith_9 : decode cX2_beginsWith 9 = .ok (.aload_n 0, 1) := by decide +kernel
theorem dX2_beginsWith_10 : decode cX2_beginsWith 10 = .ok (.iload_n 1, 1) := by decide +kernel
theorem dX2_beginsWith_11 : decode cX2_beginsWith 11 = .ok (.iload 4, 2) := by decide +kernel
theorem dX2_beginsWith_13 : decode cX2_beginsWith 13 = .ok (.invokevirtual 102, 3) := by decide +kernel
theorem dX2_beginsWith_16 : decode cX2_beginsWith 16 = .ok (.aload_n 2, 1) := by decide +kernel
theorem dX2_beginsWith_17 : decode cX2_beginsWith 17 = .ok (.iload 4, 2) := by decide +kernel
theorem dX2_beginsWith_19 : decode cX2_beginsWith 19 = .ok (.invokevirtual 44, 3) := by decide +kernel
theorem dX2_beginsWith_22 : decode cX2_beginsWith 22 = .ok (.if_icmp .eq 5, 3) := by decide +kernel
theorem dX2_beginsWith_25 : decode cX2_beginsWith 25 = .ok (.iconst 0, 1) := by decide +kernel
theorem dX2_beginsWith_26 : decode cX2_beginsWith 26 = .ok (.ireturn, 1) := by decide +kernel
theorem dX2_beginsWith_27 : decode cX2_beginsWith 27 = .ok (.iinc 4 1, 3) := by decide +kernel
theorem dX2_beginsWith_30 : decode cX2_beginsWith 30 = .ok (.goto (-27), 3) := by decide +kernel
theorem dX2_beginsWith_33 : decode cX2_beginsWith 33 = .ok (.iconst 1, 1) := by decide +kernel
theorem dX2_beginsWith_34 : decode cX2_beginsWith 34 = .ok (.ireturn, 1) := by decide +kernel
def LX2_beginsWith_3 {ρ : Type} (T : zT) (h6 : zH) (x1 : Nat) (x2 : Int32) (x3 : Nat) (x4 : Int32) (K0 : Unit → Option ρ) (K1 : Unit → Option ρ) : Nat → Int32 → Option ρ
  | 0, _ => none
  | k + 1, x5 => if x4 ≤ x5 then (K1 ()) else ((FX2_signAt T x1 x2 x5 h6).bind fun x8 => (FX1_at T x3 x5 h6).bind fun x10 => if x8 = x10 then (LX2_beginsWith_3 T h6 x1 x2 x3 x4 K0 K1 k (x5 + 1)) else (K0 ()))
set_option maxHeartbeats 4000000 in
set_option maxRecDepth 100000 in
theorem LX2_beginsWith_3_ok {X : zX} (C : zC X cX2_beginsWith 5 RX2 "beginsWith" (some .boolean) 3 65) {Z : State → Prop} {al : Bool} {hi : Nat} {ρ : Type} {r9 : ρ} {h6 : zH} {x1 : Nat} {x2 : Int32} {x3 : Nat} {x4 : Int32} {K0 : Unit → Option ρ} {K1 : Unit → Option ρ} (hK0 : ∀ (u9 : Unit), K0 u9 = some r9 → zW X 5 Z 0 0 al hi h6 25 [] []) (hK1 : ∀ (u9 : Unit), K1 u9 = some r9 → zW X 5 Z 0 0 al hi h6 33 [] []) : ∀ (k : Nat) (x5 : Int32), LX2_beginsWith_3 (xT X) h6 x1 x2 x3 x4 K0 K1 k x5 = some r9 → zW X 5 Z 0 0 al hi h6 3 [(0, .ref x1), (1, .int x2), (2, .ref x3), (3, .int x4), (4, .int x5)] [] := by
  intro k
  induction k with
  | zero =>
    intro x5 hf
    have hf : none = some r9 := hf
    cases hf
  | succ k ih =>
    intro x5 hf
    rw [LX2_beginsWith_3.eq_2] at hf
    refine z_iload C dX2_beginsWith_3 4 rfl ?_
    refine z_iload_n C dX2_beginsWith_5 3 rfl rfl ?_
    refine z_icmp_ge (tgt := 33) C dX2_beginsWith_6 (by decide) hf (fun hf => ?_) (fun hf => ?_)
    · refine z_sub [] rfl ?_
      exact hK1 _ hf
    · refine z_aload_n C dX2_beginsWith_9 0 rfl rfl ?_
      refine z_iload_n C dX2_beginsWith_10 1 rfl rfl ?_
      refine z_iload C dX2_beginsWith_11 4 rfl ?_
      obtain ⟨x8, g7, hf⟩ := zbind hf
      refine z_callV (kc' := 0) (ks' := 0) C (MX2_signAt (xl X) (xD X) (xT X) (xlo X) al hi g7) (OX2_signAt g7) rfl cw_X2_102 yv_X2_signAt dX2_beginsWith_13 rfl (by decide) ⟨rfl, rfl⟩ (Nat.le_of_ble_eq_true rfl) (st := []) rfl ?_
      refine z_aload_n C dX2_beginsWith_16 2 rfl rfl ?_
      refine z_iload C dX2_beginsWith_17 4 rfl ?_
      obtain ⟨x10, g9, hf⟩ := zbind hf
      refine z_callV (kc' := 0) (ks' := 0) C (MX1_at (xl X) (xD X) (xT X) (xlo X) al hi g9) (OX1_at g9) rfl cw_X2_44 yv_X1_at dX2_beginsWith_19 rfl (by decide) ⟨rfl, rfl⟩ (Nat.le_of_ble_eq_true rfl) (st := [.int x8]) rfl ?_
      refine z_icmp_eq (tgt := 27) C dX2_beginsWith_22 (by decide) hf (fun hf => ?_) (fun hf => ?_)
      · refine z_iinc C dX2_beginsWith_27 (k := 4) (d := 1) rfl (by decide) (by decide) (lv' := [(4, .int (x5 + 1)), (0, .ref x1), (1, .int x2), (2, .ref x3), (3, .int x4)]) rfl ?_
        refine z_goto (tgt := 3) C dX2_beginsWith_30 (by decide) ?_
        refine z_sub [1, 2, 3, 4, 0] rfl ?_
        exact ih _ hf
      · refine z_sub [] rfl ?_
        exact hK0 _ hf
def FX2_beginsWith (T : zT) (a0 : Nat) (p0 : Int32) (p1 : Nat) (p2 : Int32) (h : zH) : Option Int32 := (zo h a0 2).bind fun _ => LX2_beginsWith_3 T h a0 p0 p1 p2 (fun (u9 : Unit) => some 0) (fun (u9 : Unit) => some 1) FUEL 0
set_option maxHeartbeats 4000000 in
set_option maxRecDepth 100000 in
theorem BX2_beginsWith {X : zX} (C : zC X cX2_beginsWith 5 RX2 "beginsWith" (some .boolean) 3 65) {al : Bool} {hi : Nat} {h : zH} {a0 : Nat} {p0 : Int32} {p1 : Nat} {p2 : Int32} {r9 : Int32} (hf : FX2_beginsWith (xT X) a0 p0 p1 p2 h = some r9) : zW X 5 (zZ X al (some (.int r9), hi, h)) 0 0 al hi h 0 [(0, .ref a0), (1, .int p0), (2, .ref p1), (3, .int p2)] [] := by
  unfold FX2_beginsWith at hf
  obtain ⟨_, _, hf⟩ := zbind hf
  refine z_iconst C (v := 0) dX2_beginsWith_0 (by decide) ?_
  refine z_istore C dX2_beginsWith_1 (by decide) (lv' := [(4, .int 0), (0, .ref a0), (1, .int p0), (2, .ref p1), (3, .int p2)]) rfl ?_
  refine z_sub [1, 2, 3, 4, 0] rfl ?_
  refine LX2_beginsWith_3_ok C ?_ ?_ FUEL _ hf
  · intro u9 hf
    refine z_iconst C (v := 0) dX2_beginsWith_25 (by decide) ?_
    exact z_zreturn C dX2_beginsWith_26 (Or.inl rfl) (by cases hf; rfl)
  · intro u9 hf
    refine z_iconst C (v := 1) dX2_beginsWith_33 (by decide) ?_
    exact z_zreturn C dX2_beginsWith_34 (Or.inr rfl) (by cases hf; rfl)
theorem MX2_beginsWith (l : Launch) (D : va_G) (T : zT) (lo : Nat) (al : Bool) (hi : Nat) {h : zH} {a0 : Nat} {p0 : Int32} {p1 : Nat} {p2 : Int32} {v9 : Int32} (hf : FX2_beginsWith T a0 p0 p1 p2 h = some v9) : zM l yX2_beginsWith (.code yX2_beginsWith cX2_beginsWith 5 (some .boolean) :: TW) ({ frames := 3, cells := 0, slots := 0, locals := 65 } : Room) D T lo al [.ref a0, .int p0, .ref p1, .int p2] hi h (some (.int v9), hi, h) :=
  z_enter (own := RX2) (nm := "beginsWith") (lv := [(0, .ref a0), (1, .int p0), (2, .ref p1), (3, .int p2)]) (by decide +kernel) rfl rfl (Nat.le_of_ble_eq_true rfl) rfl (fun _ _ _ _ _ _ _ _ C => BX2_beginsWith C hf)
theorem OX2_beginsWith {T : zT} {h : zH} {a0 : Nat} {p0 : Int32} {p1 : Nat} {p2 : Int32} {r9 : Int32} (hf : FX2_beginsWith T a0 p0 p1 p2 h = some r9) : ∃ fs, h a0 = some (.inr (2, fs)) := by
  obtain ⟨_, h1, _⟩ := zbind hf
  exact zo_obj h1
theorem dX4_holds_0 : decode cX4_holds 0 = .ok (.aload_n 0, 1) := by decide +kernel
theorem dX4_holds_1 : decode cX4_holds 1 = .ok (.getfield 20, 3) := by decide +kernel
theorem dX4_holds_4 : decode cX4_holds 4 = .ok (.iload_n 1, 1) := by decide +kernel
theorem dX4_holds_5 : decode cX4_holds 5 = .ok (.invokevirtual 25, 3) := by decide +kernel
theorem dX4_holds_8 : decode cX4_holds 8 = .ok (.iconst 1, 1) := by decide +kernel
theorem dX4_holds_9 : decode cX4_holds 9 = .ok (.if_icmp .ne 7, 3) := by decide +kernel
theorem dX4_holds_12 : decode cX4_holds 12 = .ok (.iconst 1, 1) := by decide +kernel
theorem dX4_holds_13 : decode cX4_holds 13 = .ok (.goto 4, 3) := by decide +kernel
theorem dX4_holds_16 : decode cX4_holds 16 = .ok (.iconst 0, 1) := by decide +kernel
theorem dX4_holds_17 : decode cX4_holds 17 = .ok (.ireturn, 1) := by decide +kernel
def FX4_holds (T : zT) (a0 : Nat) (p0 : Int32) (h : zH) : Option Int32 := (zo h a0 4).bind fun _ => zJ (fun (x1 : Int32) => if x1 = 0 ∨ x1 = 1 then some x1 else none) (fun J2 => (zgr h a0 4 1).bind fun x3 => (FX1_at T x3 p0 h).bind fun x5 => if x5 = 1 then (J2 1) else (J2 0))
set_option maxHeartbeats 4000000 in
set_option maxRecDepth 100000 in
theorem BX4_holds {X : zX} (C : zC X cX4_holds 2 RX4 "holds" (some .boolean) 1 21) {al : Bool} {hi : Nat} {h : zH} {a0 : Nat} {p0 : Int32} {r9 : Int32} (hf : FX4_holds (xT X) a0 p0 h = some r9) : zW X 2 (zZ X al (some (.int r9), hi, h)) 0 0 al hi h 0 [(0, .ref a0), (1, .int p0)] [] := by
  unfold FX4_holds at hf
  obtain ⟨_, _, hf⟩ := zbind hf
  refine z_join (P := fun J => ∀ (x1 : Int32), J x1 = some r9 → zW X 2 (zZ X al (some (.int r9), hi, h)) 0 0 al hi h 17 [] [.int x1]) hf ?_ ?_
  · intro x1 hf
    refine z_ite hf (fun c hf => ?_) (fun c hf => nomatch hf)
    exact z_zreturn C dX4_holds_17 c (by cases hf; rfl)
  · intro J2 kJ2 hf
    refine z_aload_n C dX4_holds_0 0 rfl rfl ?_
    refine z_getR C fl_X4_20 dX4_holds_1 hf (fun x3 hf => ?_)
    refine z_iload_n C dX4_holds_4 1 rfl rfl ?_
    obtain ⟨x5, g4, hf⟩ := zbind hf
    refine z_callV (kc' := 0) (ks' := 0) C (MX1_at (xl X) (xD X) (xT X) (xlo X) al hi g4) (OX1_at g4) rfl cw_X4_25 yv_X1_at dX4_holds_5 rfl (by decide) ⟨rfl, rfl⟩ (Nat.le_of_ble_eq_true rfl) (st := []) rfl ?_
    refine z_iconst C (v := 1) dX4_holds_8 (by decide) ?_
    refine z_icmp_ne (tgt := 16) C dX4_holds_9 (by decide) hf (fun hf => ?_) (fun hf => ?_)
    · refine z_iconst C (v := 0) dX4_holds_16 (by decide) ?_
      refine z_sub [] rfl ?_
      exact kJ2 _ hf
    · refine z_iconst C (v := 1) dX4_holds_12 (by decide) ?_
      refine z_goto (tgt := 17) C dX4_holds_13 (by decide) ?_
      refine z_sub [] rfl ?_
      exact kJ2 _ hf
theorem MX4_holds (l : Launch) (D : va_G) (T : zT) (lo : Nat) (al : Bool) (hi : Nat) {h : zH} {a0 : Nat} {p0 : Int32} {v9 : Int32} (hf : FX4_holds T a0 p0 h = some v9) : zM l yX4_holds (.code yX4_holds cX4_holds 2 (some .boolean) :: TW) ({ frames := 1, cells := 0, slots := 0, locals := 21 } : Room) D T lo al [.ref a0, .int p0] hi h (some (.int v9), hi, h) :=
  z_enter (own := RX4) (nm := "holds") (lv := [(0, .ref a0), (1, .int p0)]) (by decide +kernel) rfl rfl (Nat.le_of_ble_eq_true rfl) rfl (fun _ _ _ _ _ _ _ _ C => BX4_holds C hf)
theorem OX4_holds {T : zT} {h : zH} {a0 : Nat} {p0 : Int32} {r9 : Int32} (hf : FX4_holds T a0 p0 h = some r9) : ∃ fs, h a0 = some (.inr (4, fs)) := by
  obtain ⟨_, h1, _⟩ := zbind hf
  exact zo_obj h1
theorem dX4_sheetAt_0 : decode cX4_sheetAt 0 = .ok (.iload_n 1, 1) := by decide +kernel
theorem dX4_sheetAt_1 : decode cX4_sheetAt 1 = .ok (.ifCond .lt 21, 3) := by decide +kernel
theorem dX4_sheetAt_4 : decode cX4_sheetAt 4 = .ok (.iload_n 1, 1) := by decide +kernel
theorem dX4_sheetAt_5 : decode cX4_sheetAt 5 = .ok (.aload_n 0, 1) := by decide +kernel
theorem dX4_sheetAt_6 : decode cX4_sheetAt 6 = .ok (.getfield 9, 3) := by decide +kernel
theorem dX4_sheetAt_9 : decode cX4_sheetAt 9 = .ok (.arraylength, 1) := by decide +kernel
theorem dX4_sheetAt_10 : decode cX4_sheetAt 10 = .ok (.if_icmp .ge 12, 3) := by decide +kernel
theorem dX4_sheetAt_13 : decode cX4_sheetAt 13 = .ok (.aload_n 0, 1) := by decide +kernel
theorem dX4_sheetAt_14 : decode cX4_sheetAt 14 = .ok (.getfield 9, 3) := by decide +kernel
theorem dX4_sheetAt_17 : decode cX4_sheetAt 17 = .ok (.iload_n 1, 1) := by decide +kernel
theorem dX4_sheetAt_18 : decode cX4_sheetAt 18 = .ok (.aaload, 1) := by decide +kernel
theorem dX4_sheetAt_19 : decode cX4_sheetAt 19 = .ok (.goto 4, 3) := by decide +kernel
theorem dX4_sheetAt_22 : decode cX4_sheetAt 22 = .ok (.aconst_null, 1) := by decide +kernel
theorem dX4_sheetAt_23 : decode cX4_sheetAt 23 = .ok (.areturn, 1) := by decide +kernel
def FX4_sheetAt (T : zT) (a0 : Nat) (p0 : Int32) (h : zH) : Option (Option Nat) := (zo h a0 4).bind fun _ => zJ (fun (x1 : (Option Nat)) => some x1) (fun J2 => zJ (fun (u9 : Unit) => J2 none) (fun J3 => if p0 < 0 then (J3 ()) else ((zgr h a0 4 0).bind fun x4 => (zln T h x4).bind fun x5 => if x5 ≤ p0 then (J3 ()) else ((zgr h a0 4 0).bind fun x6 => (zqi T h x6 p0).bind fun x7 => J2 x7))))
set_option maxHeartbeats 4000000 in
set_option maxRecDepth 100000 in
theorem BX4_sheetAt {X : zX} (C : zC X cX4_sheetAt 2 RX4 "sheetAt" (some (.object "CrossedSheet$Sheet")) 0 0) {al : Bool} {hi : Nat} {h : zH} {a0 : Nat} {p0 : Int32} {r9 : (Option Nat)} (hf : FX4_sheetAt (xT X) a0 p0 h = some r9) : zW X 2 (zZ X al (some (va_rf r9), hi, h)) 0 0 al hi h 0 [(0, .ref a0), (1, .int p0)] [] := by
  unfold FX4_sheetAt at hf
  obtain ⟨_, _, hf⟩ := zbind hf
  refine z_join (P := fun J => ∀ (x1 : (Option Nat)), J x1 = some r9 → zW X 2 (zZ X al (some (va_rf r9), hi, h)) 0 0 al hi h 23 [] [va_rf x1]) hf ?_ ?_
  · intro x1 hf
    exact z_areturn C dX4_sheetAt_23 (by cases hf; rfl)
  · intro J2 kJ2 hf
    refine z_join (P := fun J => ∀ (u9 : Unit), J u9 = some r9 → zW X 2 (zZ X al (some (va_rf r9), hi, h)) 0 0 al hi h 22 [] []) hf ?_ ?_
    · intro u9 hf
      refine z_aconst_null C dX4_sheetAt_22 ?_
      exact kJ2 _ hf
    · intro J3 kJ3 hf
      refine z_iload_n C dX4_sheetAt_0 1 rfl rfl ?_
      refine z_if_lt (tgt := 22) C dX4_sheetAt_1 (by decide) hf (fun hf => ?_) (fun hf => ?_)
      · refine z_sub [] rfl ?_
        exact kJ3 _ hf
      · refine z_iload_n C dX4_sheetAt_4 1 rfl rfl ?_
        refine z_aload_n C dX4_sheetAt_5 0 rfl rfl ?_
        refine z_getR C fl_X4_9 dX4_sheetAt_6 hf (fun x4 hf => ?_)
        refine z_alen C dX4_sheetAt_9 hf (fun x5 hf => ?_)
        refine z_icmp_ge (tgt := 22) C dX4_sheetAt_10 (by decide) hf (fun hf => ?_) (fun hf => ?_)
        · refine z_sub [] rfl ?_
          exact kJ3 _ hf
        · refine z_aload_n C dX4_sheetAt_13 0 rfl rfl ?_
          refine z_getR C fl_X4_9 dX4_sheetAt_14 hf (fun x6 hf => ?_)
          refine z_iload_n C dX4_sheetAt_17 1 rfl rfl ?_
          refine z_aaload C dX4_sheetAt_18 hf (fun x7 hf => ?_)
          refine z_goto (tgt := 23) C dX4_sheetAt_19 (by decide) ?_
          refine z_sub [] rfl ?_
          exact kJ2 _ hf
theorem MX4_sheetAt (l : Launch) (D : va_G) (T : zT) (lo : Nat) (al : Bool) (hi : Nat) {h : zH} {a0 : Nat} {p0 : Int32} {v9 : (Option Nat)} (hf : FX4_sheetAt T a0 p0 h = some v9) : zM l yX4_sheetAt (.code yX4_sheetAt cX4_sheetAt 2 (some (.object "CrossedSheet$Sheet")) :: TW) ({ frames := 0, cells := 0, slots := 0, locals := 0 } : Room) D T lo al [.ref a0, .int p0] hi h (some (va_rf v9), hi, h) :=
  z_enter (own := RX4) (nm := "sheetAt") (lv := [(0, .ref a0), (1, .int p0)]) (by decide +kernel) rfl rfl (Nat.le_of_ble_eq_true rfl) rfl (fun _ _ _ _ _ _ _ _ C => BX4_sheetAt C hf)
theorem OX4_sheetAt {T : zT} {h : zH} {a0 : Nat} {p0 : Int32} {r9 : (Option Nat)} (hf : FX4_sheetAt T a0 p0 h = some r9) : ∃ fs, h a0 = some (.inr (4, fs)) := by
  obtain ⟨_, h1, _⟩ := zbind hf
  exact zo_obj h1
theorem dX4_store_0 : decode cX4_store 0 = .ok (.aload_n 0, 1) := by decide +kernel
theorem dX4_store_1 : decode cX4_store 1 = .ok (.iload_n 1, 1) := by decide +kernel
theorem dX4_store_2 : decode cX4_store 2 = .ok (.invokevirtual 29, 3) := by decide +kernel
theorem dX4_store_5 : decode cX4_store 5 = .ok (.astore_n 3, 1) := by decide +kernel
theorem dX4_store_6 : decode cX4_store 6 = .ok (.aload_n 3, 1) := by decide +kernel
theorem dX4_store_7 : decode cX4_store 7 = .ok (.ifnull 17, 3) := by decide +kernel
theorem dX4_store_10 : decode cX4_store 10 = .ok (.aload_n 3, 1) := by decide +kernel
theorem dX4_store_11 : decode cX4_store 11 = .ok (.aload_n 2, 1) := by decide +kernel
theorem dX4_store_12 : decode cX4_store 12 = .ok (.invokevirtual 33, 3) := by decide +kernel
theorem dX4_store_15 : decode cX4_store 15 = .ok (.aload_n 0, 1) := by decide +kernel
theorem dX4_store_16 : decode cX4_store 16 = .ok (.getfield 20, 3) := by decide +kernel
theorem dX4_store_19 : decode cX4_store 19 = .ok (.iload_n 1, 1) := by decide +kernel
theorem dX4_store_20 : decode cX4_store 20 = .ok (.iconst 1, 1) := by decide +kernel
theorem dX4_store_21 : decode cX4_store 21 = .ok (.invokevirtual 37, 3) := by decide +kernel
theorem dX4_store_24 : decode cX4_store 24 = .ok (.return_, 1) := by decide +kernel
def FX4_store (T : zT) (a0 : Nat) (p0 : Int32) (p1 : Nat) (h : zH) : Option zH := (zo h a0 4).bind fun _ => zJ (fun (h1 : zH) => some h1) (fun J2 => (FX4_sheetAt T a0 p0 h).bind fun x4 => zon x4 (J2 h) (fun x5 => (FX3_takeFrom T x5 p1 h).bind fun h7 => (zgr h7 a0 4 1).bind fun x8 => (FX1_put T x8 p0 1 h7).bind fun h10 => J2 h10))
set_option maxHeartbeats 4000000 in
set_option maxRecDepth 100000 in
theorem BX4_store {X : zX} (C : zC X cX4_store 4 RX4 "store" none 3 68) {hi : Nat} {h : zH} {a0 : Nat} {p0 : Int32} {p1 : Nat} {r9 : zH} (hf : FX4_store (xT X) a0 p0 p1 h = some r9) : zW X 4 (zZ X false (none, hi, r9)) 0 0 false hi h 0 [(0, .ref a0), (1, .int p0), (2, .ref p1)] [] := by
  unfold FX4_store at hf
  obtain ⟨_, _, hf⟩ := zbind hf
  refine z_join (P := fun J => ∀ (h1 : zH), J h1 = some r9 → zW X 4 (zZ X false (none, hi, r9)) 0 0 false hi h1 24 [] []) hf ?_ ?_
  · intro h1 hf
    exact z_vreturn C dX4_store_24 (by cases hf; rfl)
  · intro J2 kJ2 hf
    refine z_aload_n C dX4_store_0 0 rfl rfl ?_
    refine z_iload_n C dX4_store_1 1 rfl rfl ?_
    obtain ⟨x4, g3, hf⟩ := zbind hf
    refine z_callV (kc' := 0) (ks' := 0) C (MX4_sheetAt (xl X) (xD X) (xT X) (xlo X) false hi g3) (OX4_sheetAt g3) rfl cw_X4_29 yv_X4_sheetAt dX4_store_2 rfl (by decide) ⟨rfl, rfl⟩ (Nat.le_of_ble_eq_true rfl) (st := []) rfl ?_
    refine z_on hf (fun e9 hf => ?_) (fun x5 e9 hf => ?_)
    · subst e9
      refine z_astore_nN C dX4_store_5 rfl (by decide) (lv' := [(3, .null), (0, .ref a0), (1, .int p0), (2, .ref p1)]) rfl ?_
      refine z_aload_nN C dX4_store_6 0 rfl rfl ?_
      refine z_ifnullN (tgt := 24) C dX4_store_7 (by decide) ?_
      refine z_sub [] rfl ?_
      exact kJ2 _ hf
    · subst e9
      refine z_astore_n C dX4_store_5 rfl (by decide) (lv' := [(3, .ref x5), (0, .ref a0), (1, .int p0), (2, .ref p1)]) rfl ?_
      refine z_aload_n C dX4_store_6 0 rfl rfl ?_
      refine z_ifnull C dX4_store_7 ?_
      refine z_aload_n C dX4_store_10 0 rfl rfl ?_
      refine z_aload_n C dX4_store_11 3 rfl rfl ?_
      obtain ⟨h7, g6, hf⟩ := zbind hf
      refine z_callV (kc' := 0) (ks' := 0) C (MX3_takeFrom (xl X) (xD X) (xT X) (xlo X) hi g6) (OX3_takeFrom g6) rfl cw_X4_33 yv_X3_takeFrom dX4_store_12 rfl (by decide) ⟨rfl, rfl⟩ (Nat.le_of_ble_eq_true rfl) (st := []) rfl ?_
      refine z_aload_n C dX4_store_15 1 rfl rfl ?_
      refine z_getR C fl_X4_20 dX4_store_16 hf (fun x8 hf => ?_)
      refine z_iload_n C dX4_store_19 2 rfl rfl ?_
      refine z_iconst C (v := 1) dX4_store_20 (by decide) ?_
      obtain ⟨h10, g9, hf⟩ := zbind hf
      refine z_callV (kc' := 0) (ks' := 0) C (MX1_put (xl X) (xD X) (xT X) (xlo X) false hi g9) (OX1_put g9) rfl cw_X4_37 yv_X1_put dX4_store_21 rfl (by decide) ⟨rfl, rfl⟩ (Nat.le_of_ble_eq_true rfl) (st := []) rfl ?_
      refine z_sub [] rfl ?_
      exact kJ2 _ hf
theorem MX4_store (l : Launch) (D : va_G) (T : zT) (lo : Nat) (hi : Nat) {h : zH} {a0 : Nat} {p0 : Int32} {p1 : Nat} {h9 : zH} (hf : FX4_store T a0 p0 p1 h = some h9) : zM l yX4_store (.code yX4_store cX4_store 4 none :: TW) ({ frames := 3, cells := 0, slots := 0, locals := 68 } : Room) D T lo false [.ref a0, .int p0, .ref p1] hi h (none, hi, h9) :=
  z_enter (own := RX4) (nm := "store") (lv := [(0, .ref a0), (1, .int p0), (2, .ref p1)]) (by decide +kernel) rfl rfl (Nat.le_of_ble_eq_true rfl) rfl (fun _ _ _ _ _ _ _ _ C => BX4_store C hf)
theorem OX4_store {T : zT} {h : zH} {a0 : Nat} {p0 : Int32} {p1 : Nat} {r9 : zH} (hf : FX4_store T a0 p0 p1 h = some r9) : ∃ fs, h a0 = some (.inr (4, fs)) := by
  obtain ⟨_, h1, _⟩ := zbind hf
  exact zo_obj h1
theorem dX4_fetch_0 : decode cX4_fetch 0 = .ok (.aload_n 0, 1) := by decide +kernel
theorem dX4_fetch_1 : decode cX4_fetch 1 = .ok (.iload_n 1, 1) := by decide +kernel
theorem dX4_fetch_2 : decode cX4_fetch 2 = .ok (.invokevirtual 29, 3) := by decide +kernel
theorem dX4_fetch_5 : decode cX4_fetch 5 = .ok (.astore_n 3, 1) := by decide +kernel
theorem dX4_fetch_6 : decode cX4_fetch 6 = .ok (.aload_n 3, 1) := by decide +kernel
theorem dX4_fetch_7 : decode cX4_fetch 7 = .ok (.ifnull 16, 3) := by decide +kernel
theorem dX4_fetch_10 : decode cX4_fetch 10 = .ok (.aload_n 0, 1) := by decide +kernel
theorem dX4_fetch_11 : decode cX4_fetch 11 = .ok (.iload_n 1, 1) := by decide +kernel
theorem dX4_fetch_12 : decode cX4_fetch 12 = .ok (.invokevirtual 41, 3) := by decide +kernel
theorem dX4_fetch_15 : decode cX4_fetch 15 = .ok (.ifCond .eq 8, 3) := by decide +kernel
theorem dX4_fetch_18 : decode cX4_fetch 18 = .ok (.aload_n 2, 1) := by decide +kernel
theorem dX4_fetch_19 : decode cX4_fetch 19 = .ok (.aload_n 3, 1) := by decide +kernel
theorem dX4_fetch_20 : decode cX4_fetch 20 = .ok (.invokevirtual 33, 3) := by decide +kernel
theorem dX4_fetch_23 : decode cX4_fetch 23 = .ok (.return_, 1) := by decide +kernel
def FX4_fetch (T : zT) (a0 : Nat) (p0 : Int32) (p1 : Nat) (h : zH) : Option zH := (zo h a0 4).bind fun _ => zJ (fun (h1 : zH) => some h1) (fun J2 => (FX4_sheetAt T a0 p0 h).bind fun x4 => zon x4 (J2 h) (fun x5 => (FX4_holds T a0 p0 h).bind fun x7 => if x7 = 0 then (J2 h) else ((FX3_takeFrom T p1 x5 h).bind fun h9 => J2 h9)))
set_option maxHeartbeats 4000000 in
set_option maxRecDepth 100000 in
theorem BX4_fetch {X : zX} (C : zC X cX4_fetch 4 RX4 "fetch" none 3 68) {hi : Nat} {h : zH} {a0 : Nat} {p0 : Int32} {p1 : Nat} {r9 : zH} (hf : FX4_fetch (xT X) a0 p0 p1 h = some r9) : zW X 4 (zZ X false (none, hi, r9)) 0 0 false hi h 0 [(0, .ref a0), (1, .int p0), (2, .ref p1)] [] := by
  unfold FX4_fetch at hf
  obtain ⟨_, _, hf⟩ := zbind hf
  refine z_join (P := fun J => ∀ (h1 : zH), J h1 = some r9 → zW X 4 (zZ X false (none, hi, r9)) 0 0 false hi h1 23 [] []) hf ?_ ?_
  · intro h1 hf
    exact z_vreturn C dX4_fetch_23 (by cases hf; rfl)
  · intro J2 kJ2 hf
    refine z_aload_n C dX4_fetch_0 0 rfl rfl ?_
    refine z_iload_n C dX4_fetch_1 1 rfl rfl ?_
    obtain ⟨x4, g3, hf⟩ := zbind hf
    refine z_callV (kc' := 0) (ks' := 0) C (MX4_sheetAt (xl X) (xD X) (xT X) (xlo X) false hi g3) (OX4_sheetAt g3) rfl cw_X4_29 yv_X4_sheetAt dX4_fetch_2 rfl (by decide) ⟨rfl, rfl⟩ (Nat.le_of_ble_eq_true rfl) (st := []) rfl ?_
    refine z_on hf (fun e9 hf => ?_) (fun x5 e9 hf => ?_)
    · subst e9
      refine z_astore_nN C dX4_fetch_5 rfl (by decide) (lv' := [(3, .null), (0, .ref a0), (1, .int p0), (2, .ref p1)]) rfl ?_
      refine z_aload_nN C dX4_fetch_6 0 rfl rfl ?_
      refine z_ifnullN (tgt := 23) C dX4_fetch_7 (by decide) ?_
      refine z_sub [] rfl ?_
      exact kJ2 _ hf
    · subst e9
      refine z_astore_n C dX4_fetch_5 rfl (by decide) (lv' := [(3, .ref x5), (0, .ref a0), (1, .int p0), (2, .ref p1)]) rfl ?_
      refine z_aload_n C dX4_fetch_6 0 rfl rfl ?_
      refine z_ifnull C dX4_fetch_7 ?_
      refine z_aload_n C dX4_fetch_10 1 rfl rfl ?_
      refine z_iload_n C dX4_fetch_11 2 rfl rfl ?_
      obtain ⟨x7, g6, hf⟩ := zbind hf
      refine z_callV (kc' := 0) (ks' := 0) C (MX4_holds (xl X) (xD X) (xT X) (xlo X) false hi g6) (OX4_holds g6) rfl cw_X4_41 yv_X4_holds dX4_fetch_12 rfl (by decide) ⟨rfl, rfl⟩ (Nat.le_of_ble_eq_true rfl) (st := []) rfl ?_
      refine z_if_eq (tgt := 23) C dX4_fetch_15 (by decide) hf (fun hf => ?_) (fun hf => ?_)
      · refine z_sub [] rfl ?_
        exact kJ2 _ hf
      · refine z_aload_n C dX4_fetch_18 3 rfl rfl ?_
        refine z_aload_n C dX4_fetch_19 0 rfl rfl ?_
        obtain ⟨h9, g8, hf⟩ := zbind hf
        refine z_callV (kc' := 0) (ks' := 0) C (MX3_takeFrom (xl X) (xD X) (xT X) (xlo X) hi g8) (OX3_takeFrom g8) rfl cw_X4_33 yv_X3_takeFrom dX4_fetch_20 rfl (by decide) ⟨rfl, rfl⟩ (Nat.le_of_ble_eq_true rfl) (st := []) rfl ?_
        refine z_sub [] rfl ?_
        exact kJ2 _ hf
theorem MX4_fetch (l : Launch) (D : va_G) (T : zT) (lo : Nat) (hi : Nat) {h : zH} {a0 : Nat} {p0 : Int32} {p1 : Nat} {h9 : zH} (hf : FX4_fetch T a0 p0 p1 h = some h9) : zM l yX4_fetch (.code yX4_fetch cX4_fetch 4 none :: TW) ({ frames := 3, cells := 0, slots := 0, locals := 68 } : Room) D T lo false [.ref a0, .int p0, .ref p1] hi h (none, hi, h9) :=
  z_enter (own := RX4) (nm := "fetch") (lv := [(0, .ref a0), (1, .int p0), (2, .ref p1)]) (by decide +kernel) rfl rfl (Nat.le_of_ble_eq_true rfl) rfl (fun _ _ _ _ _ _ _ _ C => BX4_fetch C hf)
theorem OX4_fetch {T : zT} {h : zH} {a0 : Nat} {p0 : Int32} {p1 : Nat} {r9 : zH} (hf : FX4_fetch T a0 p0 p1 h = some r9) : ∃ fs, h a0 = some (.inr (4, fs)) := by
  obtain ⟨_, h1, _⟩ := zbind hf
  exact zo_obj h1
theorem dX4_clear_0 : decode cX4_clear 0 = .ok (.aload_n 0, 1) := by decide +kernel
theorem dX4_clear_1 : decode cX4_clear 1 = .ok (.getfield 20, 3) := by decide +kernel
theorem dX4_clear_4 : decode cX4_clear 4 = .ok (.iconst 0, 1) := by decide +kernel
theorem dX4_clear_5 : decode cX4_clear 5 = .ok (.invokevirtual 45, 3) := by decide +kernel
theorem dX4_clear_8 : decode cX4_clear 8 = .ok (.return_, 1) := by decide +kernel
def FX4_clear (T : zT) (a0 : Nat) (h : zH) : Option zH := (zo h a0 4).bind fun _ => (zgr h a0 4 1).bind fun x1 => (FX1_fill T x1 0 h).bind fun h3 => some h3
set_option maxHeartbeats 4000000 in
set_option maxRecDepth 100000 in
theorem BX4_clear {X : zX} (C : zC X cX4_clear 1 RX4 "clear" none 1 22) {al : Bool} {hi : Nat} {h : zH} {a0 : Nat} {r9 : zH} (hf : FX4_clear (xT X) a0 h = some r9) : zW X 1 (zZ X al (none, hi, r9)) 0 0 al hi h 0 [(0, .ref a0)] [] := by
  unfold FX4_clear at hf
  obtain ⟨_, _, hf⟩ := zbind hf
  refine z_aload_n C dX4_clear_0 0 rfl rfl ?_
  refine z_getR C fl_X4_20 dX4_clear_1 hf (fun x1 hf => ?_)
  refine z_iconst C (v := 0) dX4_clear_4 (by decide) ?_
  obtain ⟨h3, g2, hf⟩ := zbind hf
  refine z_callV (kc' := 0) (ks' := 0) C (MX1_fill (xl X) (xD X) (xT X) (xlo X) al hi g2) (OX1_fill g2) rfl cw_X4_45 yv_X1_fill dX4_clear_5 rfl (by decide) ⟨rfl, rfl⟩ (Nat.le_of_ble_eq_true rfl) (st := []) rfl ?_
  exact z_vreturn C dX4_clear_8 (by cases hf; rfl)
theorem MX4_clear (l : Launch) (D : va_G) (T : zT) (lo : Nat) (al : Bool) (hi : Nat) {h : zH} {a0 : Nat} {h9 : zH} (hf : FX4_clear T a0 h = some h9) : zM l yX4_clear (.code yX4_clear cX4_clear 1 none :: TW) ({ frames := 1, cells := 0, slots := 0, locals := 22 } : Room) D T lo al [.ref a0] hi h (none, hi, h9) :=
  z_enter (own := RX4) (nm := "clear") (lv := [(0, .ref a0)]) (by decide +kernel) rfl rfl (Nat.le_of_ble_eq_true rfl) rfl (fun _ _ _ _ _ _ _ _ C => BX4_clear C hf)
theorem OX4_clear {T : zT} {h : zH} {a0 : Nat} {r9 : zH} (hf : FX4_clear T a0 h = some r9) : ∃ fs, h a0 = some (.inr (4, fs)) := by
  obtain ⟨_, h1, _⟩ := zbind hf
  exact zo_obj h1
theorem dX0_remember_0 : decode cX0_remember 0 = .ok (.aload_n 0, 1) := by decide +kernel
theorem dX0_remember_1 : decode cX0_remember 1 = .ok (.getfield 14, 3) := by decide +kernel
theorem dX0_remember_4 : decode cX0_remember 4 = .ok (.aload_n 0, 1) := by decide +kernel
theorem dX0_remember_5 : decode cX0_remember 5 = .ok (.getfield 20, 3) := by decide +kernel
theorem dX0_remember_8 : decode cX0_remember 8 = .ok (.aload_n 1, 1) := by decide +kernel
theorem dX0_remember_9 : decode cX0_remember 9 = .ok (.invokevirtual 24, 3) := by decide +kernel
theorem dX0_remember_12 : decode cX0_remember 12 = .ok (.aload_n 0, 1) := by decide +kernel
theorem dX0_remember_13 : decode cX0_remember 13 = .ok (.aload_n 0, 1) := by decide +kernel
theorem dX0_remember_14 : decode cX0_remember 14 = .ok (.getfield 20, 3) := by decide +kernel
theorem dX0_remember_17 : decode cX0_remember 17 = .ok (.iconst 1, 1) := by decide +kernel
theorem dX0_remember_18 : decode cX0_remember 18 = .ok (.iadd, 1) := by decide +kernel
theorem dX0_remember_19 : decode cX0_remember 19 = .ok (.bipush 14, 2) := by decide +kernel
theorem dX0_remember_21 : decode cX0_remember 21 = .ok (.irem, 1) := by decide +kernel
theorem dX0_remember_22 : decode cX0_remember 22 = .ok (.putfield 20, 3) := by decide +kernel
theorem dX0_remember_25 : decode cX0_remember 25 = .ok (.aload_n 0, 1) := by decide +kernel
theorem dX0_remember_26 : decode cX0_remember 26 = .ok (.aload_n 0, 1) := by decide +kernel
theorem dX0_remember_27 : decode cX0_remember 27 = .ok (.getfield 28, 3) := by decide +kernel
theorem dX0_remember_30 : decode cX0_remember 30 = .ok (.iconst 1, 1) := by decide +kernel
theorem dX0_remember_31 : decode cX0_remember 31 = .ok (.iadd, 1) := by decide +kernel
theorem dX0_remember_32 : decode cX0_remember 32 = .ok (.bipush 14, 2) := by decide +kernel
theorem dX0_remember_34 : decode cX0_remember 34 = .ok (.invokestatic 31, 3) := by decide +kernel
theorem dX0_remember_37 : decode cX0_remember 37 = .ok (.putfield 28, 3) := by decide +kernel
theorem dX0_remember_40 : decode cX0_remember 40 = .ok (.return_, 1) := by decide +kernel
def FX0_remember (T : zT) (a0 : Nat) (p0 : Nat) (h : zH) : Option zH := (zo h a0 0).bind fun _ => (zgr h a0 0 2).bind fun x1 => (zgi h a0 0 1).bind fun x2 => (FX4_store T x1 x2 p0 h).bind fun h4 => (zgi h4 a0 0 1).bind fun x5 => (zremI (x5 + 1) 14).bind fun x6 => (zpv h4 a0 0 1 (.int x6)).bind fun h7 => (zgi h7 a0 0 0).bind fun x8 => (zpv h7 a0 0 0 (.int (if (14 : Int32) < (x8 + 1) then 14 else (x8 + 1)))).bind fun h9 => some h9
set_option maxHeartbeats 4000000 in
set_option maxRecDepth 100000 in
theorem BX0_remember {X : zX} (C : zC X cX0_remember 2 RX0 "remember" none 4 91) {hi : Nat} {h : zH} {a0 : Nat} {p0 : Nat} {r9 : zH} (hf : FX0_remember (xT X) a0 p0 h = some r9) : zW X 2 (zZ X false (none, hi, r9)) 0 0 false hi h 0 [(0, .ref a0), (1, .ref p0)] [] := by
  unfold FX0_remember at hf
  obtain ⟨_, _, hf⟩ := zbind hf
  refine z_aload_n C dX0_remember_0 0 rfl rfl ?_
  refine z_getR C fl_X0_14 dX0_remember_1 hf (fun x1 hf => ?_)
  refine z_aload_n C dX0_remember_4 0 rfl rfl ?_
  refine z_getI C fl_X0_20 dX0_remember_5 hf (fun x2 hf => ?_)
  refine z_aload_n C dX0_remember_8 1 rfl rfl ?_
  obtain ⟨h4, g3, hf⟩ := zbind hf
  refine z_callV (kc' := 0) (ks' := 0) C (MX4_store (xl X) (xD X) (xT X) (xlo X) hi g3) (OX4_store g3) rfl cw_X0_24 yv_X4_store dX0_remember_9 rfl (by decide) ⟨rfl, rfl⟩ (Nat.le_of_ble_eq_true rfl) (st := []) rfl ?_
  refine z_aload_n C dX0_remember_12 0 rfl rfl ?_
  refine z_aload_n C dX0_remember_13 0 rfl rfl ?_
  refine z_getI C fl_X0_20 dX0_remember_14 hf (fun x5 hf => ?_)
  refine z_iconst C (v := 1) dX0_remember_17 (by decide) ?_
  refine z_iadd C dX0_remember_18 ?_
  refine z_bipush C (v := 14) dX0_remember_19 (by decide) ?_
  refine z_irem C dX0_remember_21 hf (fun x6 _ hf => ?_)
  refine z_put C fl_X0_20 dX0_remember_22 rfl rfl hf (fun h7 hf => ?_)
  refine z_aload_n C dX0_remember_25 0 rfl rfl ?_
  refine z_aload_n C dX0_remember_26 0 rfl rfl ?_
  refine z_getI C fl_X0_28 dX0_remember_27 hf (fun x8 hf => ?_)
  refine z_iconst C (v := 1) dX0_remember_30 (by decide) ?_
  refine z_iadd C dX0_remember_31 ?_
  refine z_bipush C (v := 14) dX0_remember_32 (by decide) ?_
  refine z_min C mw_736 mw_mins mw_mathi mw_minc dX0_remember_34 ⟨Nat.le_of_ble_eq_true rfl, Nat.le_of_ble_eq_true rfl⟩ ?_
  refine z_put C fl_X0_28 dX0_remember_37 rfl rfl hf (fun h9 hf => ?_)
  exact z_vreturn C dX0_remember_40 (by cases hf; rfl)
theorem MX0_remember (l : Launch) (D : va_G) (T : zT) (lo : Nat) (hi : Nat) {h : zH} {a0 : Nat} {p0 : Nat} {h9 : zH} (hf : FX0_remember T a0 p0 h = some h9) : zM l yX0_remember (.code yX0_remember cX0_remember 2 none :: TW) ({ frames := 4, cells := 0, slots := 0, locals := 91 } : Room) D T lo false [.ref a0, .ref p0] hi h (none, hi, h9) :=
  z_enter (own := RX0) (nm := "remember") (lv := [(0, .ref a0), (1, .ref p0)]) (by decide +kernel) rfl rfl (Nat.le_of_ble_eq_true rfl) rfl (fun _ _ _ _ _ _ _ _ C => BX0_remember C hf)
theorem OX0_remember {T : zT} {h : zH} {a0 : Nat} {p0 : Nat} {r9 : zH} (hf : FX0_remember T a0 p0 h = some r9) : ∃ fs, h a0 = some (.inr (0, fs)) := by
  obtain ⟨_, h1, _⟩ := zbind hf
  exact zo_obj h1
theorem dX0_takeBack_0 : decode cX0_takeBack 0 = .ok (.aload_n 0, 1) := by decide +kernel
theorem dX0_takeBack_1 : decode cX0_takeBack 1 = .ok (.getfield 28, 3) := by decide +kernel
theorem dX0_takeBack_4 : decode cX0_takeBack 4 = .ok (.ifCond .le 41, 3) := by decide +kernel
theorem dX0_takeBack_7 : decode cX0_takeBack 7 = .ok (.aload_n 0, 1) := by decide +kernel
theorem dX0_takeBack_8 : decode cX0_takeBack 8 = .ok (.aload_n 0, 1) := by decide +kernel
theorem dX0_takeBack_9 : decode cX0_takeBack 9 = .ok (.getfield 20, 3) := by decide +kernel
theorem dX0_takeBack_12 : decode cX0_takeBack 12 = .ok (.bipush 14, 2) := by decide +kernel
theorem dX0_takeBack_14 : decode cX0_takeBack 14 = .ok (.iadd, 1) := by decide +kernel
theorem dX0_takeBack_15 : decode cX0_takeBack 15 = .ok (.iconst 1, 1) := by decide +kernel
theorem dX0_takeBack_16 : decode cX0_takeBack 16 = .ok (.isub, 1) := by decide +kernel
theorem dX0_takeBack_17 : decode cX0_takeBack 17 = .ok (.bipush 14, 2) := by decide +kernel
theorem dX0_takeBack_19 : decode cX0_takeBack 19 = .ok (.irem, 1) := by decide +kernel
theorem dX0_takeBack_20 : decode cX0_takeBack 20 = .ok (.putfield 20, 3) := by decide +kernel
theorem dX0_takeBack_23 : decode cX0_takeBack 23 = .ok (.aload_n 0, 1) := by decide +kernel
theorem dX0_takeBack_24 : decode cX0_takeBack 24 = .ok (.dup, 1) := by decide +kernel
theorem dX0_takeBack_25 : decode cX0_takeBack 25 = .ok (.getfield 28, 3) := by decide +kernel
theorem dX0_takeBack_28 : decode cX0_takeBack 28 = .ok (.iconst 1, 1) := by decide +kernel
theorem dX0_takeBack_29 : decode cX0_takeBack 29 = .ok (.isub, 1) := by decide +kernel
theorem dX0_takeBack_30 : decode cX0_takeBack 30 = .ok (.putfield 28, 3) := by decide +kernel
theorem dX0_takeBack_33 : decode cX0_takeBack 33 = .ok (.aload_n 0, 1) := by decide +kernel
theorem dX0_takeBack_34 : decode cX0_takeBack 34 = .ok (.getfield 14, 3) := by decide +kernel
theorem dX0_takeBack_37 : decode cX0_takeBack 37 = .ok (.aload_n 0, 1) := by decide +kernel
theorem dX0_takeBack_38 : decode cX0_takeBack 38 = .ok (.getfield 20, 3) := by decide +kernel
theorem dX0_takeBack_41 : decode cX0_takeBack 41 = .ok (.aload_n 1, 1) := by decide +kernel
theorem dX0_takeBack_42 : decode cX0_takeBack 42 = .ok (.invokevirtual 37, 3) := by decide +kernel
theorem dX0_takeBack_45 : decode cX0_takeBack 45 = .ok (.return_, 1) := by decide +kernel
def FX0_takeBack (T : zT) (a0 : Nat) (p0 : Nat) (h : zH) : Option zH := (zo h a0 0).bind fun _ => zJ (fun (h1 : zH) => some h1) (fun J2 => (zgi h a0 0 0).bind fun x3 => if x3 ≤ 0 then (J2 h) else ((zgi h a0 0 1).bind fun x4 => (zremI ((x4 + 14) - 1) 14).bind fun x5 => (zpv h a0 0 1 (.int x5)).bind fun h6 => (zgi h6 a0 0 0).bind fun x7 => (zpv h6 a0 0 0 (.int (x7 - 1))).bind fun h8 => (zgr h8 a0 0 2).bind fun x9 => (zgi h8 a0 0 1).bind fun x10 => (FX4_fetch T x9 x10 p0 h8).bind fun h12 => J2 h12))
set_option maxHeartbeats 4000000 in
set_option maxRecDepth 100000 in
theorem BX0_takeBack {X : zX} (C : zC X cX0_takeBack 2 RX0 "takeBack" none 4 91) {hi : Nat} {h : zH} {a0 : Nat} {p0 : Nat} {r9 : zH} (hf : FX0_takeBack (xT X) a0 p0 h = some r9) : zW X 2 (zZ X false (none, hi, r9)) 0 0 false hi h 0 [(0, .ref a0), (1, .ref p0)] [] := by
  unfold FX0_takeBack at hf
  obtain ⟨_, _, hf⟩ := zbind hf
  refine z_join (P := fun J => ∀ (h1 : zH), J h1 = some r9 → zW X 2 (zZ X false (none, hi, r9)) 0 0 false hi h1 45 [] []) hf ?_ ?_
  · intro h1 hf
    exact z_vreturn C dX0_takeBack_45 (by cases hf; rfl)
  · intro J2 kJ2 hf
    refine z_aload_n C dX0_takeBack_0 0 rfl rfl ?_
    refine z_getI C fl_X0_28 dX0_takeBack_1 hf (fun x3 hf => ?_)
    refine z_if_le (tgt := 45) C dX0_takeBack_4 (by decide) hf (fun hf => ?_) (fun hf => ?_)
    · refine z_sub [] rfl ?_
      exact kJ2 _ hf
    · refine z_aload_n C dX0_takeBack_7 0 rfl rfl ?_
      refine z_aload_n C dX0_takeBack_8 0 rfl rfl ?_
      refine z_getI C fl_X0_20 dX0_takeBack_9 hf (fun x4 hf => ?_)
      refine z_bipush C (v := 14) dX0_takeBack_12 (by decide) ?_
      refine z_iadd C dX0_takeBack_14 ?_
      refine z_iconst C (v := 1) dX0_takeBack_15 (by decide) ?_
      refine z_isub C dX0_takeBack_16 ?_
      refine z_bipush C (v := 14) dX0_takeBack_17 (by decide) ?_
      refine z_irem C dX0_takeBack_19 hf (fun x5 _ hf => ?_)
      refine z_put C fl_X0_20 dX0_takeBack_20 rfl rfl hf (fun h6 hf => ?_)
      refine z_aload_n C dX0_takeBack_23 0 rfl rfl ?_
      refine z_dup C dX0_takeBack_24 rfl ?_
      refine z_getI C fl_X0_28 dX0_takeBack_25 hf (fun x7 hf => ?_)
      refine z_iconst C (v := 1) dX0_takeBack_28 (by decide) ?_
      refine z_isub C dX0_takeBack_29 ?_
      refine z_put C fl_X0_28 dX0_takeBack_30 rfl rfl hf (fun h8 hf => ?_)
      refine z_aload_n C dX0_takeBack_33 0 rfl rfl ?_
      refine z_getR C fl_X0_14 dX0_takeBack_34 hf (fun x9 hf => ?_)
      refine z_aload_n C dX0_takeBack_37 0 rfl rfl ?_
      refine z_getI C fl_X0_20 dX0_takeBack_38 hf (fun x10 hf => ?_)
      refine z_aload_n C dX0_takeBack_41 1 rfl rfl ?_
      obtain ⟨h12, g11, hf⟩ := zbind hf
      refine z_callV (kc' := 0) (ks' := 0) C (MX4_fetch (xl X) (xD X) (xT X) (xlo X) hi g11) (OX4_fetch g11) rfl cw_X0_37 yv_X4_fetch dX0_takeBack_42 rfl (by decide) ⟨rfl, rfl⟩ (Nat.le_of_ble_eq_true rfl) (st := []) rfl ?_
      refine z_sub [] rfl ?_
      exact kJ2 _ hf
theorem MX0_takeBack (l : Launch) (D : va_G) (T : zT) (lo : Nat) (hi : Nat) {h : zH} {a0 : Nat} {p0 : Nat} {h9 : zH} (hf : FX0_takeBack T a0 p0 h = some h9) : zM l yX0_takeBack (.code yX0_takeBack cX0_takeBack 2 none :: TW) ({ frames := 4, cells := 0, slots := 0, locals := 91 } : Room) D T lo false [.ref a0, .ref p0] hi h (none, hi, h9) :=
  z_enter (own := RX0) (nm := "takeBack") (lv := [(0, .ref a0), (1, .ref p0)]) (by decide +kernel) rfl rfl (Nat.le_of_ble_eq_true rfl) rfl (fun _ _ _ _ _ _ _ _ C => BX0_takeBack C hf)
theorem OX0_takeBack {T : zT} {h : zH} {a0 : Nat} {p0 : Nat} {r9 : zH} (hf : FX0_takeBack T a0 p0 h = some r9) : ∃ fs, h a0 = some (.inr (0, fs)) := by
  obtain ⟨_, h1, _⟩ := zbind hf
  exact zo_obj h1
theorem dX0_forget_0 : decode cX0_forget 0 = .ok (.aload_n 0, 1) := by decide +kernel
theorem dX0_forget_1 : decode cX0_forget 1 = .ok (.iconst 0, 1) := by decide +kernel
theorem dX0_forget_2 : decode cX0_forget 2 = .ok (.putfield 28, 3) := by decide +kernel
theorem dX0_forget_5 : decode cX0_forget 5 = .ok (.return_, 1) := by decide +kernel
def FX0_forget (T : zT) (a0 : Nat) (h : zH) : Option zH := (zo h a0 0).bind fun _ => (zpv h a0 0 0 (.int 0)).bind fun h1 => some h1
set_option maxHeartbeats 4000000 in
set_option maxRecDepth 100000 in
theorem BX0_forget {X : zX} (C : zC X cX0_forget 1 RX0 "forget" none 0 0) {al : Bool} {hi : Nat} {h : zH} {a0 : Nat} {r9 : zH} (hf : FX0_forget (xT X) a0 h = some r9) : zW X 1 (zZ X al (none, hi, r9)) 0 0 al hi h 0 [(0, .ref a0)] [] := by
  unfold FX0_forget at hf
  obtain ⟨_, _, hf⟩ := zbind hf
  refine z_aload_n C dX0_forget_0 0 rfl rfl ?_
  refine z_iconst C (v := 0) dX0_forget_1 (by decide) ?_
  refine z_put C fl_X0_28 dX0_forget_2 rfl rfl hf (fun h1 hf => ?_)
  exact z_vreturn C dX0_forget_5 (by cases hf; rfl)
theorem MX0_forget (l : Launch) (D : va_G) (T : zT) (lo : Nat) (al : Bool) (hi : Nat) {h : zH} {a0 : Nat} {h9 : zH} (hf : FX0_forget T a0 h = some h9) : zM l yX0_forget (.code yX0_forget cX0_forget 1 none :: TW) ({ frames := 0, cells := 0, slots := 0, locals := 0 } : Room) D T lo al [.ref a0] hi h (none, hi, h9) :=
  z_enter (own := RX0) (nm := "forget") (lv := [(0, .ref a0)]) (by decide +kernel) rfl rfl (Nat.le_of_ble_eq_true rfl) rfl (fun _ _ _ _ _ _ _ _ C => BX0_forget C hf)
theorem OX0_forget {T : zT} {h : zH} {a0 : Nat} {r9 : zH} (hf : FX0_forget T a0 h = some r9) : ∃ fs, h a0 = some (.inr (0, fs)) := by
  obtain ⟨_, h1, _⟩ := zbind hf
  exact zo_obj h1
theorem dX6_readText_0 : decode cX6_readText 0 = .ok (.aload_n 0, 1) := by decide +kernel
theorem dX6_readText_1 : decode cX6_readText 1 = .ok (.getfield 25, 3) := by decide +kernel
theorem dX6_readText_4 : decode cX6_readText 4 = .ok (.aload_n 0, 1) := by decide +kernel
theorem dX6_readText_5 : decode cX6_readText 5 = .ok (.getfield 36, 3) := by decide +kernel
theorem dX6_readText_8 : decode cX6_readText 8 = .ok (.invokevirtual 339, 3) := by decide +kernel
theorem dX6_readText_11 : decode cX6_readText 11 = .ok (.iconst 0, 1) := by decide +kernel
theorem dX6_readText_12 : decode cX6_readText 12 = .ok (.istore_n 1, 1) := by decide +kernel
theorem dX6_readText_13 : decode cX6_readText 13 = .ok (.iload_n 1, 1) := by decide +kernel
theorem dX6_readText_14 : decode cX6_readText 14 = .ok (.aload_n 0, 1) := by decide +kernel
theorem dX6_readText_15 : decode cX6_readText 15 = .ok (.getfield 18, 3) := by decide +kernel
theorem dX6_readText_18 : decode cX6_readText 18 = .ok (.if_icmp .ge 47, 3) := by decide +kernel
theorem dX6_readText_21 : decode cX6_readText 21 = .ok (.aload_n 0, 1) := by decide +kernel
theorem dX6_readText_22 : decode cX6_readText 22 = .ok (.getfield 14, 3) := by decide +kernel
theorem dX6_readText_25 : decode cX6_readText 25 = .ok (.iload_n 1, 1) := by decide +kernel
theorem dX6_readText_26 : decode cX6_readText 26 = .ok (.invokevirtual 140, 3) := by decide +kernel
theorem dX6_readText_29 : decode cX6_readText 29 = .ok (.istore_n 2, 1) := by decide +kernel
theorem dX6_readText_30 : decode cX6_readText 30 = .ok (.aload_n 0, 1) := by decide +kernel
theorem dX6_readText_31 : decode cX6_readText 31 = .ok (.getfield 25, 3) := by decide +kernel
theorem dX6_readText_34 : decode cX6_readText 34 = .ok (.aload_n 0, 1) := by decide +kernel
theorem dX6_readText_35 : decode cX6_readText 35 = .ok (.getfield 36, 3) := by decide +kernel
theorem dX6_readText_38 : decode cX6_readText 38 = .ok (.iload_n 2, 1) := by decide +kernel
theorem dX6_readText_39 : decode cX6_readText 39 = .ok (.invokevirtual 342, 3) := by decide +kernel
theorem dX6_readText_42 : decode cX6_readText 42 = .ok (.ifCond .ne 5, 3) := by decide +kernel
theorem dX6_readText_45 : decode cX6_readText 45 = .ok (.iload_n 1, 1) := by decide +kernel
theorem dX6_readText_46 : decode cX6_readText 46 = .ok (.ireturn, 1) := by decide +kernel
theorem dX6_readText_47 : decode cX6_readText 47 = .ok (.aload_n 0, 1) := by decide +kernel
theorem dX6_readText_48 : decode cX6_readText 48 = .ok (.getfield 25, 3) := by decide +kernel
theorem dX6_readText_51 : decode cX6_readText 51 = .ok (.aload_n 0, 1) := by decide +kernel
theorem dX6_readText_52 : decode cX6_readText 52 = .ok (.getfield 36, 3) := by decide +kernel
theorem dX6_readText_55 : decode cX6_readText 55 = .ok (.iload_n 2, 1) := by decide +kernel
theorem dX6_readText_56 : decode cX6_readText 56 = .ok (.invokevirtual 346, 3) := by decide +kernel
theorem dX6_readText_59 : decode cX6_readText 59 = .ok (.iinc 1 1, 3) := by decide +kernel
theorem dX6_readText_62 : decode cX6_readText 62 = .ok (.goto (-49), 3) := by decide +kernel
theorem dX6_readText_65 : decode cX6_readText 65 = .ok (.aload_n 0, 1) := by decide +kernel
theorem dX6_readText_66 : decode cX6_readText 66 = .ok (.getfield 25, 3) := by decide +kernel
theorem dX6_readText_69 : decode cX6_readText 69 = .ok (.invokevirtual 350, 3) := by decide +kernel
theorem dX6_readText_72 : decode cX6_readText 72 = .ok (.ifCond .eq 8, 3) := by decide +kernel
theorem dX6_readText_75 : decode cX6_readText 75 = .ok (.bipush (-9), 2) := by decide +kernel
theorem dX6_readText_77 : decode cX6_readText 77 = .ok (.goto 7, 3) := by decide +kernel
theorem dX6_readText_80 : decode cX6_readText 80 = .ok (.aload_n 0, 1) := by decide +kernel
theorem dX6_readText_81 : decode cX6_readText 81 = .ok (.getfield 18, 3) := by decide +kernel
theorem dX6_readText_84 : decode cX6_readText 84 = .ok (.ireturn, 1) := by decide +kernel
def LX6_readText_13 {ρ : Type} (T : zT) (x5 : Nat) (K0 : Int32 → zH → Option ρ) (K1 : zH → Option ρ) : Nat → Int32 → zH → Option ρ
  | 0, _, _ => none
  | k + 1, x6, h7 => (zgi h7 x5 6 1).bind fun x8 => if x8 ≤ x6 then (K1 h7) else ((zgr h7 x5 6 0).bind fun x9 => (FX1_at T x9 x6 h7).bind fun x11 => (zgr h7 x5 6 2).bind fun x12 => (zgr h7 x5 6 4).bind fun x13 => (FX5_allows T x12 x13 x11 h7).bind fun x15 => if x15 = 0 then (K0 x6 h7) else ((zgr h7 x5 6 2).bind fun x16 => (zgr h7 x5 6 4).bind fun x17 => (FX5_take T x16 x17 x11 h7).bind fun h19 => LX6_readText_13 T x5 K0 K1 k (x6 + 1) h19))
set_option maxHeartbeats 4000000 in
set_option maxRecDepth 100000 in
theorem LX6_readText_13_ok {X : zX} (C : zC X cX6_readText 3 RX6 "readText" (some .int) 5 118) {Z : State → Prop} {al : Bool} {hi : Nat} {ρ : Type} {r9 : ρ} {x5 : Nat} {K0 : Int32 → zH → Option ρ} {K1 : zH → Option ρ} (hK0 : ∀ (y1 : Int32) (g9 : zH), K0 y1 g9 = some r9 → zW X 3 Z 0 0 al hi g9 45 [(1, .int y1)] []) (hK1 : ∀ (g9 : zH), K1 g9 = some r9 → zW X 3 Z 0 0 al hi g9 65 [(0, .ref x5)] []) : ∀ (k : Nat) (x6 : Int32) (h7 : zH), LX6_readText_13 (xT X) x5 K0 K1 k x6 h7 = some r9 → zW X 3 Z 0 0 al hi h7 13 [(0, .ref x5), (1, .int x6)] [] := by
  intro k
  induction k with
  | zero =>
    intro x6 h7 hf
    have hf : none = some r9 := hf
    cases hf
  | succ k ih =>
    intro x6 h7 hf
    rw [LX6_readText_13.eq_2] at hf
    refine z_iload_n C dX6_readText_13 1 rfl rfl ?_
    refine z_aload_n C dX6_readText_14 0 rfl rfl ?_
    refine z_getI C fl_X6_18 dX6_readText_15 hf (fun x8 hf => ?_)
    refine z_icmp_ge (tgt := 65) C dX6_readText_18 (by decide) hf (fun hf => ?_) (fun hf => ?_)
    · refine z_sub [0] rfl ?_
      exact hK1 _ hf
    · refine z_aload_n C dX6_readText_21 0 rfl rfl ?_
      refine z_getR C fl_X6_14 dX6_readText_22 hf (fun x9 hf => ?_)
      refine z_iload_n C dX6_readText_25 1 rfl rfl ?_
      obtain ⟨x11, g10, hf⟩ := zbind hf
      refine z_callV (kc' := 0) (ks' := 0) C (MX1_at (xl X) (xD X) (xT X) (xlo X) al hi g10) (OX1_at g10) rfl cw_X6_140 yv_X1_at dX6_readText_26 rfl (by decide) ⟨rfl, rfl⟩ (Nat.le_of_ble_eq_true rfl) (st := []) rfl ?_
      refine z_istore_n C dX6_readText_29 rfl (by decide) (lv' := [(2, .int x11), (0, .ref x5), (1, .int x6)]) rfl ?_
      refine z_aload_n C dX6_readText_30 1 rfl rfl ?_
      refine z_getR C fl_X6_25 dX6_readText_31 hf (fun x12 hf => ?_)
      refine z_aload_n C dX6_readText_34 1 rfl rfl ?_
      refine z_getR C fl_X6_36 dX6_readText_35 hf (fun x13 hf => ?_)
      refine z_iload_n C dX6_readText_38 0 rfl rfl ?_
      obtain ⟨x15, g14, hf⟩ := zbind hf
      refine z_callV (kc' := 0) (ks' := 0) C (MX5_allows (xl X) (xD X) (xT X) (xlo X) al hi g14) (OX5_allows g14) rfl cw_X6_342 yv_X5_allows dX6_readText_39 rfl (by decide) ⟨rfl, rfl⟩ (Nat.le_of_ble_eq_true rfl) (st := []) rfl ?_
      refine z_if_ne (tgt := 47) C dX6_readText_42 (by decide) hf (fun hf => ?_) (fun hf => ?_)
      · refine z_aload_n C dX6_readText_47 1 rfl rfl ?_
        refine z_getR C fl_X6_25 dX6_readText_48 hf (fun x16 hf => ?_)
        refine z_aload_n C dX6_readText_51 1 rfl rfl ?_
        refine z_getR C fl_X6_36 dX6_readText_52 hf (fun x17 hf => ?_)
        refine z_iload_n C dX6_readText_55 0 rfl rfl ?_
        obtain ⟨h19, g18, hf⟩ := zbind hf
        refine z_callV (kc' := 0) (ks' := 0) C (MX5_take (xl X) (xD X) (xT X) (xlo X) al hi g18) (OX5_take g18) rfl cw_X6_346 yv_X5_take dX6_readText_56 rfl (by decide) ⟨rfl, rfl⟩ (Nat.le_of_ble_eq_true rfl) (st := []) rfl ?_
        refine z_iinc C dX6_readText_59 (k := 2) (d := 1) rfl (by decide) (by decide) (lv' := [(1, .int (x6 + 1)), (2, .int x11), (0, .ref x5)]) rfl ?_
        refine z_goto (tgt := 13) C dX6_readText_62 (by decide) ?_
        refine z_sub [2, 0] rfl ?_
        exact ih _ _ hf
      · refine z_sub [2] rfl ?_
        exact hK0 _ _ hf
def FX6_readText (T : zT) (a0 : Nat) (h : zH) : Option (Int32 × zH) := (zo h a0 6).bind fun _ => (zgr h a0 6 2).bind fun x1 => (zgr h a0 6 4).bind fun x2 => (FX5_begin T x1 x2 h).bind fun h4 => LX6_readText_13 T a0 (fun (x20 : Int32) (h21 : zH) => some (x20, h21)) (fun (h22 : zH) => zJ (fun (x23 : Int32) => some (x23, h22)) (fun J24 => (zgr h22 a0 6 2).bind fun x25 => (FX5_mayEnd T x25 h22).bind fun x27 => if x27 = 0 then ((zgi h22 a0 6 1).bind fun x28 => J24 x28) else (J24 (-9 : Int32)))) FUEL 0 h4
set_option maxHeartbeats 4000000 in
set_option maxRecDepth 100000 in
theorem BX6_readText {X : zX} (C : zC X cX6_readText 3 RX6 "readText" (some .int) 5 118) {al : Bool} {hi : Nat} {h : zH} {a0 : Nat} {r9 : (Int32 × zH)} (hf : FX6_readText (xT X) a0 h = some r9) : zW X 3 (zZ X al (some (.int r9.1), hi, r9.2)) 0 0 al hi h 0 [(0, .ref a0)] [] := by
  unfold FX6_readText at hf
  obtain ⟨_, _, hf⟩ := zbind hf
  refine z_aload_n C dX6_readText_0 0 rfl rfl ?_
  refine z_getR C fl_X6_25 dX6_readText_1 hf (fun x1 hf => ?_)
  refine z_aload_n C dX6_readText_4 0 rfl rfl ?_
  refine z_getR C fl_X6_36 dX6_readText_5 hf (fun x2 hf => ?_)
  obtain ⟨h4, g3, hf⟩ := zbind hf
  refine z_callV (kc' := 0) (ks' := 0) C (MX5_begin (xl X) (xD X) (xT X) (xlo X) al hi g3) (OX5_begin g3) rfl cw_X6_339 yv_X5_begin dX6_readText_8 rfl (by decide) ⟨rfl, rfl⟩ (Nat.le_of_ble_eq_true rfl) (st := []) rfl ?_
  refine z_iconst C (v := 0) dX6_readText_11 (by decide) ?_
  refine z_istore_n C dX6_readText_12 rfl (by decide) (lv' := [(1, .int 0), (0, .ref a0)]) rfl ?_
  refine z_sub [1, 0] rfl ?_
  refine LX6_readText_13_ok C ?_ ?_ FUEL _ _ hf
  · intro x20 h21 hf
    refine z_iload_n C dX6_readText_45 0 rfl rfl ?_
    exact z_ireturn C dX6_readText_46 (by cases hf; rfl)
  · intro h22 hf
    refine z_join (P := fun J => ∀ (x23 : Int32), J x23 = some r9 → zW X 3 (zZ X al (some (.int r9.1), hi, r9.2)) 0 0 al hi h22 84 [] [.int x23]) hf ?_ ?_
    · intro x23 hf
      exact z_ireturn C dX6_readText_84 (by cases hf; rfl)
    · intro J24 kJ24 hf
      refine z_aload_n C dX6_readText_65 0 rfl rfl ?_
      refine z_getR C fl_X6_25 dX6_readText_66 hf (fun x25 hf => ?_)
      obtain ⟨x27, g26, hf⟩ := zbind hf
      refine z_callV (kc' := 0) (ks' := 0) C (MX5_mayEnd (xl X) (xD X) (xT X) (xlo X) al hi g26) (OX5_mayEnd g26) rfl cw_X6_350 yv_X5_mayEnd dX6_readText_69 rfl (by decide) ⟨rfl, rfl⟩ (Nat.le_of_ble_eq_true rfl) (st := []) rfl ?_
      refine z_if_eq (tgt := 80) C dX6_readText_72 (by decide) hf (fun hf => ?_) (fun hf => ?_)
      · refine z_aload_n C dX6_readText_80 0 rfl rfl ?_
        refine z_getI C fl_X6_18 dX6_readText_81 hf (fun x28 hf => ?_)
        refine z_sub [] rfl ?_
        exact kJ24 _ hf
      · refine z_bipush C (v := (-9 : Int32)) dX6_readText_75 (by decide) ?_
        refine z_goto (tgt := 84) C dX6_readText_77 (by decide) ?_
        refine z_sub [] rfl ?_
        exact kJ24 _ hf
theorem MX6_readText (l : Launch) (D : va_G) (T : zT) (lo : Nat) (al : Bool) (hi : Nat) {h : zH} {a0 : Nat} {v9 : Int32} {h9 : zH} (hf : FX6_readText T a0 h = some (v9, h9)) : zM l yX6_readText (.code yX6_readText cX6_readText 3 (some .int) :: TW) ({ frames := 5, cells := 0, slots := 0, locals := 118 } : Room) D T lo al [.ref a0] hi h (some (.int v9), hi, h9) :=
  z_enter (own := RX6) (nm := "readText") (lv := [(0, .ref a0)]) (by decide +kernel) rfl rfl (Nat.le_of_ble_eq_true rfl) rfl (fun _ _ _ _ _ _ _ _ C => BX6_readText C hf)
theorem OX6_readText {T : zT} {h : zH} {a0 : Nat} {r9 : (Int32 × zH)} (hf : FX6_readText T a0 h = some r9) : ∃ fs, h a0 = some (.inr (6, fs)) := by
  obtain ⟨_, h1, _⟩ := zbind hf
  exact zo_obj h1
theorem dX6_errorPosition_0 : decode cX6_errorPosition 0 = .ok (.aload_n 0, 1) := by decide +kernel
theorem dX6_errorPosition_1 : decode cX6_errorPosition 1 = .ok (.invokevirtual 87, 3) := by decide +kernel
theorem dX6_errorPosition_4 : decode cX6_errorPosition 4 = .ok (.ireturn, 1) := by decide +kernel
def FX6_errorPosition (T : zT) (a0 : Nat) (h : zH) : Option (Int32 × zH) := (zo h a0 6).bind fun _ => zb2 (FX6_readText T a0 h) fun x2 h3 => some (x2, h3)
set_option maxHeartbeats 4000000 in
set_option maxRecDepth 100000 in
theorem BX6_errorPosition {X : zX} (C : zC X cX6_errorPosition 1 RX6 "errorPosition" (some .int) 6 140) {al : Bool} {hi : Nat} {h : zH} {a0 : Nat} {r9 : (Int32 × zH)} (hf : FX6_errorPosition (xT X) a0 h = some r9) : zW X 1 (zZ X al (some (.int r9.1), hi, r9.2)) 0 0 al hi h 0 [(0, .ref a0)] [] := by
  unfold FX6_errorPosition at hf
  obtain ⟨_, _, hf⟩ := zbind hf
  refine z_aload_n C dX6_errorPosition_0 0 rfl rfl ?_
  obtain ⟨x2, h3, g1, hf⟩ := zbind2 hf
  refine z_callV (kc' := 0) (ks' := 0) C (MX6_readText (xl X) (xD X) (xT X) (xlo X) al hi g1) (OX6_readText g1) rfl cw_X6_87 yv_X6_readText dX6_errorPosition_1 rfl (by decide) ⟨rfl, rfl⟩ (Nat.le_of_ble_eq_true rfl) (st := []) rfl ?_
  exact z_ireturn C dX6_errorPosition_4 (by cases hf; rfl)
theorem MX6_errorPosition (l : Launch) (D : va_G) (T : zT) (lo : Nat) (al : Bool) (hi : Nat) {h : zH} {a0 : Nat} {v9 : Int32} {h9 : zH} (hf : FX6_errorPosition T a0 h = some (v9, h9)) : zM l yX6_errorPosition (.code yX6_errorPosition cX6_errorPosition 1 (some .int) :: TW) ({ frames := 6, cells := 0, slots := 0, locals := 140 } : Room) D T lo al [.ref a0] hi h (some (.int v9), hi, h9) :=
  z_enter (own := RX6) (nm := "errorPosition") (lv := [(0, .ref a0)]) (by decide +kernel) rfl rfl (Nat.le_of_ble_eq_true rfl) rfl (fun _ _ _ _ _ _ _ _ C => BX6_errorPosition C hf)
theorem OX6_errorPosition {T : zT} {h : zH} {a0 : Nat} {r9 : (Int32 × zH)} (hf : FX6_errorPosition T a0 h = some r9) : ∃ fs, h a0 = some (.inr (6, fs)) := by
  obtain ⟨_, h1, _⟩ := zbind hf
  exact zo_obj h1
theorem dX6_readPresent_0 : decode cX6_readPresent 0 = .ok (.aload_n 0, 1) := by decide +kernel
theorem dX6_readPresent_1 : decode cX6_readPresent 1 = .ok (.getfield 59, 3) := by decide +kernel
theorem dX6_readPresent_4 : decode cX6_readPresent 4 = .ok (.aload_n 0, 1) := by decide +kernel
theorem dX6_readPresent_5 : decode cX6_readPresent 5 = .ok (.getfield 32, 3) := by decide +kernel
theorem dX6_readPresent_8 : decode cX6_readPresent 8 = .ok (.iload_n 1, 1) := by decide +kernel
theorem dX6_readPresent_9 : decode cX6_readPresent 9 = .ok (.aload_n 0, 1) := by decide +kernel
theorem dX6_readPresent_10 : decode cX6_readPresent 10 = .ok (.getfield 32, 3) := by decide +kernel
theorem dX6_readPresent_13 : decode cX6_readPresent 13 = .ok (.getfield 121, 3) := by decide +kernel
theorem dX6_readPresent_16 : decode cX6_readPresent 16 = .ok (.invokevirtual 260, 3) := by decide +kernel
theorem dX6_readPresent_19 : decode cX6_readPresent 19 = .ok (.ireturn, 1) := by decide +kernel
def FX6_readPresent (T : zT) (a0 : Nat) (p0 : Int32) (h : zH) : Option (Int32 × zH) := (zo h a0 6).bind fun _ => (zgr h a0 6 8).bind fun x1 => (zgr h a0 6 3).bind fun x2 => (zgr h a0 6 3).bind fun x3 => (zgi h x3 3 3).bind fun x4 => zb2 (FX2_readLetter T x1 x2 p0 x4 h) fun x6 h7 => some (x6, h7)
set_option maxHeartbeats 4000000 in
set_option maxRecDepth 100000 in
theorem BX6_readPresent {X : zX} (C : zC X cX6_readPresent 2 RX6 "readPresent" (some .int) 5 127) {al : Bool} {hi : Nat} {h : zH} {a0 : Nat} {p0 : Int32} {r9 : (Int32 × zH)} (hf : FX6_readPresent (xT X) a0 p0 h = some r9) : zW X 2 (zZ X al (some (.int r9.1), hi, r9.2)) 0 0 al hi h 0 [(0, .ref a0), (1, .int p0)] [] := by
  unfold FX6_readPresent at hf
  obtain ⟨_, _, hf⟩ := zbind hf
  refine z_aload_n C dX6_readPresent_0 0 rfl rfl ?_
  refine z_getR C fl_X6_59 dX6_readPresent_1 hf (fun x1 hf => ?_)
  refine z_aload_n C dX6_readPresent_4 0 rfl rfl ?_
  refine z_getR C fl_X6_32 dX6_readPresent_5 hf (fun x2 hf => ?_)
  refine z_iload_n C dX6_readPresent_8 1 rfl rfl ?_
  refine z_aload_n C dX6_readPresent_9 0 rfl rfl ?_
  refine z_getR C fl_X6_32 dX6_readPresent_10 hf (fun x3 hf => ?_)
  refine z_getI C fl_X6_121 dX6_readPresent_13 hf (fun x4 hf => ?_)
  obtain ⟨x6, h7, g5, hf⟩ := zbind2 hf
  refine z_callV (kc' := 0) (ks' := 0) C (MX2_readLetter (xl X) (xD X) (xT X) (xlo X) al hi g5) (OX2_readLetter g5) rfl cw_X6_260 yv_X2_readLetter dX6_readPresent_16 rfl (by decide) ⟨rfl, rfl⟩ (Nat.le_of_ble_eq_true rfl) (st := []) rfl ?_
  exact z_ireturn C dX6_readPresent_19 (by cases hf; rfl)
theorem MX6_readPresent (l : Launch) (D : va_G) (T : zT) (lo : Nat) (al : Bool) (hi : Nat) {h : zH} {a0 : Nat} {p0 : Int32} {v9 : Int32} {h9 : zH} (hf : FX6_readPresent T a0 p0 h = some (v9, h9)) : zM l yX6_readPresent (.code yX6_readPresent cX6_readPresent 2 (some .int) :: TW) ({ frames := 5, cells := 0, slots := 0, locals := 127 } : Room) D T lo al [.ref a0, .int p0] hi h (some (.int v9), hi, h9) :=
  z_enter (own := RX6) (nm := "readPresent") (lv := [(0, .ref a0), (1, .int p0)]) (by decide +kernel) rfl rfl (Nat.le_of_ble_eq_true rfl) rfl (fun _ _ _ _ _ _ _ _ C => BX6_readPresent C hf)
theorem OX6_readPresent {T : zT} {h : zH} {a0 : Nat} {p0 : Int32} {r9 : (Int32 × zH)} (hf : FX6_readPresent T a0 p0 h = some r9) : ∃ fs, h a0 = some (.inr (6, fs)) := by
  obtain ⟨_, h1, _⟩ := zbind hf
  exact zo_obj h1
theorem dX6_turn_0 : decode cX6_turn 0 = .ok (.aload_n 0, 1) := by decide +kernel
theorem dX6_turn_1 : decode cX6_turn 1 = .ok (.getfield 45, 3) := by decide +kernel
theorem dX6_turn_4 : decode cX6_turn 4 = .ok (.aload_n 0, 1) := by decide +kernel
theorem dX6_turn_5 : decode cX6_turn 5 = .ok (.getfield 32, 3) := by decide +kernel
theorem dX6_turn_8 : decode cX6_turn 8 = .ok (.invokevirtual 213, 3) := by decide +kernel
theorem dX6_turn_11 : decode cX6_turn 11 = .ok (.aload_n 0, 1) := by decide +kernel
theorem dX6_turn_12 : decode cX6_turn 12 = .ok (.getfield 32, 3) := by decide +kernel
theorem dX6_turn_15 : decode cX6_turn 15 = .ok (.aload_n 0, 1) := by decide +kernel
theorem dX6_turn_16 : decode cX6_turn 16 = .ok (.getfield 39, 3) := by decide +kernel
theorem dX6_turn_19 : decode cX6_turn 19 = .ok (.invokevirtual 236, 3) := by decide +kernel
theorem dX6_turn_22 : decode cX6_turn 22 = .ok (.aload_n 0, 1) := by decide +kernel
theorem dX6_turn_23 : decode cX6_turn 23 = .ok (.iconst 0, 1) := by decide +kernel
theorem dX6_turn_24 : decode cX6_turn 24 = .ok (.invokevirtual 127, 3) := by decide +kernel
theorem dX6_turn_27 : decode cX6_turn 27 = .ok (.aload_n 0, 1) := by decide +kernel
theorem dX6_turn_28 : decode cX6_turn 28 = .ok (.iconst 1, 1) := by decide +kernel
theorem dX6_turn_29 : decode cX6_turn 29 = .ok (.invokevirtual 127, 3) := by decide +kernel
theorem dX6_turn_32 : decode cX6_turn 32 = .ok (.iadd, 1) := by decide +kernel
theorem dX6_turn_33 : decode cX6_turn 33 = .ok (.ireturn, 1) := by decide +kernel
def FX6_turn (T : zT) (a0 : Nat) (h : zH) : Option (Int32 × zH) := (zo h a0 6).bind fun _ => (zgr h a0 6 6).bind fun x1 => (zgr h a0 6 3).bind fun x2 => (FX0_remember T x1 x2 h).bind fun h4 => (zgr h4 a0 6 3).bind fun x5 => (zgr h4 a0 6 5).bind fun x6 => (FX3_turnByQuarter T x5 x6 h4).bind fun h8 => zb2 (FX6_readPresent T a0 0 h8) fun x10 h11 => zb2 (FX6_readPresent T a0 1 h11) fun x13 h14 => some ((x10 + x13), h14)
set_option maxHeartbeats 4000000 in
set_option maxRecDepth 100000 in
theorem BX6_turn {X : zX} (C : zC X cX6_turn 1 RX6 "turn" (some .int) 6 148) {hi : Nat} {h : zH} {a0 : Nat} {r9 : (Int32 × zH)} (hf : FX6_turn (xT X) a0 h = some r9) : zW X 1 (zZ X false (some (.int r9.1), hi, r9.2)) 0 0 false hi h 0 [(0, .ref a0)] [] := by
  unfold FX6_turn at hf
  obtain ⟨_, _, hf⟩ := zbind hf
  refine z_aload_n C dX6_turn_0 0 rfl rfl ?_
  refine z_getR C fl_X6_45 dX6_turn_1 hf (fun x1 hf => ?_)
  refine z_aload_n C dX6_turn_4 0 rfl rfl ?_
  refine z_getR C fl_X6_32 dX6_turn_5 hf (fun x2 hf => ?_)
  obtain ⟨h4, g3, hf⟩ := zbind hf
  refine z_callV (kc' := 0) (ks' := 0) C (MX0_remember (xl X) (xD X) (xT X) (xlo X) hi g3) (OX0_remember g3) rfl cw_X6_213 yv_X0_remember dX6_turn_8 rfl (by decide) ⟨rfl, rfl⟩ (Nat.le_of_ble_eq_true rfl) (st := []) rfl ?_
  refine z_aload_n C dX6_turn_11 0 rfl rfl ?_
  refine z_getR C fl_X6_32 dX6_turn_12 hf (fun x5 hf => ?_)
  refine z_aload_n C dX6_turn_15 0 rfl rfl ?_
  refine z_getR C fl_X6_39 dX6_turn_16 hf (fun x6 hf => ?_)
  obtain ⟨h8, g7, hf⟩ := zbind hf
  refine z_callV (kc' := 0) (ks' := 0) C (MX3_turnByQuarter (xl X) (xD X) (xT X) (xlo X) hi g7) (OX3_turnByQuarter g7) rfl cw_X6_236 yv_X3_turnByQuarter dX6_turn_19 rfl (by decide) ⟨rfl, rfl⟩ (Nat.le_of_ble_eq_true rfl) (st := []) rfl ?_
  refine z_aload_n C dX6_turn_22 0 rfl rfl ?_
  refine z_iconst C (v := 0) dX6_turn_23 (by decide) ?_
  obtain ⟨x10, h11, g9, hf⟩ := zbind2 hf
  refine z_callV (kc' := 0) (ks' := 0) C (MX6_readPresent (xl X) (xD X) (xT X) (xlo X) false hi g9) (OX6_readPresent g9) rfl cw_X6_127 yv_X6_readPresent dX6_turn_24 rfl (by decide) ⟨rfl, rfl⟩ (Nat.le_of_ble_eq_true rfl) (st := []) rfl ?_
  refine z_aload_n C dX6_turn_27 0 rfl rfl ?_
  refine z_iconst C (v := 1) dX6_turn_28 (by decide) ?_
  obtain ⟨x13, h14, g12, hf⟩ := zbind2 hf
  refine z_callV (kc' := 0) (ks' := 0) C (MX6_readPresent (xl X) (xD X) (xT X) (xlo X) false hi g12) (OX6_readPresent g12) rfl cw_X6_127 yv_X6_readPresent dX6_turn_29 rfl (by decide) ⟨rfl, rfl⟩ (Nat.le_of_ble_eq_true rfl) (st := [.int x10]) rfl ?_
  refine z_iadd C dX6_turn_32 ?_
  exact z_ireturn C dX6_turn_33 (by cases hf; rfl)
theorem MX6_turn (l : Launch) (D : va_G) (T : zT) (lo : Nat) (hi : Nat) {h : zH} {a0 : Nat} {v9 : Int32} {h9 : zH} (hf : FX6_turn T a0 h = some (v9, h9)) : zM l yX6_turn (.code yX6_turn cX6_turn 1 (some .int) :: TW) ({ frames := 6, cells := 0, slots := 0, locals := 148 } : Room) D T lo false [.ref a0] hi h (some (.int v9), hi, h9) :=
  z_enter (own := RX6) (nm := "turn") (lv := [(0, .ref a0)]) (by decide +kernel) rfl rfl (Nat.le_of_ble_eq_true rfl) rfl (fun _ _ _ _ _ _ _ _ C => BX6_turn C hf)
theorem OX6_turn {T : zT} {h : zH} {a0 : Nat} {r9 : (Int32 × zH)} (hf : FX6_turn T a0 h = some r9) : ∃ fs, h a0 = some (.inr (6, fs)) := by
  obtain ⟨_, h1, _⟩ := zbind hf
  exact zo_obj h1
theorem dX6_splitSigns_0 : decode cX6_splitSigns 0 = .ok (.lload_n 2, 1) := by decide +kernel
theorem dX6_splitSigns_1 : decode cX6_splitSigns 1 = .ok (.lstore 4, 2) := by decide +kernel
theorem dX6_splitSigns_3 : decode cX6_splitSigns 3 = .ok (.iconst 1, 1) := by decide +kernel
theorem dX6_splitSigns_4 : decode cX6_splitSigns 4 = .ok (.istore 6, 2) := by decide +kernel
theorem dX6_splitSigns_6 : decode cX6_splitSigns 6 = .ok (.iload_n 1, 1) := by decide +kernel
theorem dX6_splitSigns_7 : decode cX6_splitSigns 7 = .ok (.iconst 1, 1) := by decide +kernel
theorem dX6_splitSigns_8 : decode cX6_splitSigns 8 = .ok (.isub, 1) := by decide +kernel
theorem dX6_splitSigns_9 : decode cX6_splitSigns 9 = .ok (.istore 7, 2) := by decide +kernel
theorem dX6_splitSigns_11 : decode cX6_splitSigns 11 = .ok (.iload 7, 2) := by decide +kernel
theorem dX6_splitSigns_13 : decode cX6_splitSigns 13 = .ok (.ifCond .lt 56, 3) := by decide +kernel
theorem dX6_splitSigns_16 : decode cX6_splitSigns 16 = .ok (.lload 4, 2) := by decide +kernel
theorem dX6_splitSigns_18 : decode cX6_splitSigns 18 = .ok (.ldc2_w 354, 3) := by decide +kernel
theorem dX6_splitSigns_21 : decode cX6_splitSigns 21 = .ok (.lrem, 1) := by decide +kernel
theorem dX6_splitSigns_22 : decode cX6_splitSigns 22 = .ok (.l2i, 1) := by decide +kernel
theorem dX6_splitSigns_23 : decode cX6_splitSigns 23 = .ok (.istore 8, 2) := by decide +kernel
theorem dX6_splitSigns_25 : decode cX6_splitSigns 25 = .ok (.aload_n 0, 1) := by decide +kernel
theorem dX6_splitSigns_26 : decode cX6_splitSigns 26 = .ok (.getfield 66, 3) := by decide +kernel
theorem dX6_splitSigns_29 : decode cX6_splitSigns 29 = .ok (.iload 7, 2) := by decide +kernel
theorem dX6_splitSigns_31 : decode cX6_splitSigns 31 = .ok (.iload 8, 2) := by decide +kernel
theorem dX6_splitSigns_33 : decode cX6_splitSigns 33 = .ok (.invokevirtual 83, 3) := by decide +kernel
theorem dX6_splitSigns_36 : decode cX6_splitSigns 36 = .ok (.iload 6, 2) := by decide +kernel
theorem dX6_splitSigns_38 : decode cX6_splitSigns 38 = .ok (.ifCond .eq 14, 3) := by decide +kernel
theorem dX6_splitSigns_41 : decode cX6_splitSigns 41 = .ok (.iload 8, 2) := by decide +kernel
theorem dX6_splitSigns_43 : decode cX6_splitSigns 43 = .ok (.bipush 26, 2) := by decide +kernel
theorem dX6_splitSigns_45 : decode cX6_splitSigns 45 = .ok (.if_icmp .gt 7, 3) := by decide +kernel
theorem dX6_splitSigns_48 : decode cX6_splitSigns 48 = .ok (.iconst 1, 1) := by decide +kernel
theorem dX6_splitSigns_49 : decode cX6_splitSigns 49 = .ok (.goto 4, 3) := by decide +kernel
theorem dX6_splitSigns_52 : decode cX6_splitSigns 52 = .ok (.iconst 0, 1) := by decide +kernel
theorem dX6_splitSigns_53 : decode cX6_splitSigns 53 = .ok (.istore 6, 2) := by decide +kernel
theorem dX6_splitSigns_55 : decode cX6_splitSigns 55 = .ok (.lload 4, 2) := by decide +kernel
theorem dX6_splitSigns_57 : decode cX6_splitSigns 57 = .ok (.ldc2_w 354, 3) := by decide +kernel
theorem dX6_splitSigns_60 : decode cX6_splitSigns 60 = .ok (.ldiv, 1) := by decide +kernel
theorem dX6_splitSigns_61 : decode cX6_splitSigns 61 = .ok (.lstore 4, 2) := by decide +kernel
theorem dX6_splitSigns_63 : decode cX6_splitSigns 63 = .ok (.iinc 7 (-1), 3) := by decide +kernel
theorem dX6_splitSigns_66 : decode cX6_splitSigns 66 = .ok (.goto (-55), 3) := by decide +kernel
theorem dX6_splitSigns_69 : decode cX6_splitSigns 69 = .ok (.lload_n 2, 1) := by decide +kernel
theorem dX6_splitSigns_70 : decode cX6_splitSigns 70 = .ok (.lconst 0, 1) := by decide +kernel
theorem dX6_splitSigns_71 : decode cX6_splitSigns 71 = .ok (.lcmp, 1) := by decide +kernel
theorem dX6_splitSigns_72 : decode cX6_splitSigns 72 = .ok (.ifCond .lt 19, 3) := by decide +kernel
theorem dX6_splitSigns_75 : decode cX6_splitSigns 75 = .ok (.lload 4, 2) := by decide +kernel
theorem dX6_splitSigns_77 : decode cX6_splitSigns 77 = .ok (.lconst 0, 1) := by decide +kernel
theorem dX6_splitSigns_78 : decode cX6_splitSigns 78 = .ok (.lcmp, 1) := by decide +kernel
theorem dX6_splitSigns_79 : decode cX6_splitSigns 79 = .ok (.ifCond .ne 12, 3) := by decide +kernel
theorem dX6_splitSigns_82 : decode cX6_splitSigns 82 = .ok (.iload 6, 2) := by decide +kernel
theorem dX6_splitSigns_84 : decode cX6_splitSigns 84 = .ok (.ifCond .eq 7, 3) := by decide +kernel
theorem dX6_splitSigns_87 : decode cX6_splitSigns 87 = .ok (.iconst 1, 1) := by decide +kernel
theorem dX6_splitSigns_88 : decode cX6_splitSigns 88 = .ok (.goto 4, 3) := by decide +kernel
theorem dX6_splitSigns_91 : decode cX6_splitSigns 91 = .ok (.iconst 0, 1) := by decide +kernel
theorem dX6_splitSigns_92 : decode cX6_splitSigns 92 = .ok (.ireturn, 1) := by decide +kernel
def LX6_splitSigns_11 {ρ : Type} (T : zT) (x1 : Nat) (x2 : Int64) (K0 : Int64 → Int32 → zH → Option ρ) : Nat → Int64 → Int32 → Int32 → zH → Option ρ
  | 0, _, _, _, _ => none
  | k + 1, x3, x4, x5, h6 => if x5 < 0 then (K0 x3 x4 h6) else (zJ (fun (x7 : Int32) (h8 : zH) => (zdivL x3 (100 : Int64)).bind fun x10 => LX6_splitSigns_11 T x1 x2 K0 k x10 x7 (x5 + (-1 : Int32)) h8) (fun J9 => zJ (fun (h11 : zH) => J9 0 h11) (fun J12 => (zremL x3 (100 : Int64)).bind fun x13 => (zgr h6 x1 6 10).bind fun x14 => (FX1_put T x14 x5 x13.toInt32 h6).bind fun h16 => if x4 = 0 then (J12 h16) else (if 26 < x13.toInt32 then (J12 h16) else (J9 1 h16)))))
set_option maxHeartbeats 4000000 in
set_option maxRecDepth 100000 in
theorem LX6_splitSigns_11_ok {X : zX} (C : zC X cX6_splitSigns 9 RX6 "splitSigns" (some .boolean) 1 22) {Z : State → Prop} {al : Bool} {hi : Nat} {ρ : Type} {r9 : ρ} {x1 : Nat} {x2 : Int64} {K0 : Int64 → Int32 → zH → Option ρ} (hK0 : ∀ (y4 : Int64) (y6 : Int32) (g9 : zH), K0 y4 y6 g9 = some r9 → zW X 9 Z 0 0 al hi g9 69 [(2, .long x2), (4, .long y4), (6, .int y6)] []) : ∀ (k : Nat) (x3 : Int64) (x4 : Int32) (x5 : Int32) (h6 : zH), LX6_splitSigns_11 (xT X) x1 x2 K0 k x3 x4 x5 h6 = some r9 → zW X 9 Z 0 0 al hi h6 11 [(0, .ref x1), (2, .long x2), (4, .long x3), (6, .int x4), (7, .int x5)] [] := by
  intro k
  induction k with
  | zero =>
    intro x3 x4 x5 h6 hf
    have hf : none = some r9 := hf
    cases hf
  | succ k ih =>
    intro x3 x4 x5 h6 hf
    rw [LX6_splitSigns_11.eq_2] at hf
    refine z_iload C dX6_splitSigns_11 4 rfl ?_
    refine z_if_lt (tgt := 69) C dX6_splitSigns_13 (by decide) hf (fun hf => ?_) (fun hf => ?_)
    · refine z_sub [1, 2, 3] rfl ?_
      exact hK0 _ _ _ hf
    · refine z_join (P := fun J => ∀ (x7 : Int32) (h8 : zH), J x7 h8 = some r9 → zW X 9 Z 0 0 al hi h8 53 [(0, .ref x1), (2, .long x2), (4, .long x3), (7, .int x5)] [.int x7]) hf ?_ ?_
      · intro x7 h8 hf
        refine z_istore C dX6_splitSigns_53 (by decide) (lv' := [(6, .int x7), (0, .ref x1), (2, .long x2), (4, .long x3), (7, .int x5)]) rfl ?_
        refine z_lload C dX6_splitSigns_55 3 rfl ?_
        refine z_ldc2 C (v := 100) mw_883 dX6_splitSigns_57 ?_
        refine z_ldiv C dX6_splitSigns_60 hf (fun x10 _ hf => ?_)
        refine z_lstore C dX6_splitSigns_61 (by decide) (lv' := [(4, .long x10), (6, .int x7), (0, .ref x1), (2, .long x2), (7, .int x5)]) rfl ?_
        refine z_iinc C dX6_splitSigns_63 (k := 4) (d := (-1 : Int32)) rfl (by decide) (by decide) (lv' := [(7, .int (x5 + (-1 : Int32))), (4, .long x10), (6, .int x7), (0, .ref x1), (2, .long x2)]) rfl ?_
        refine z_goto (tgt := 11) C dX6_splitSigns_66 (by decide) ?_
        refine z_sub [3, 4, 1, 2, 0] rfl ?_
        exact ih _ _ _ _ hf
      · intro J9 kJ9 hf
        refine z_join (P := fun J => ∀ (h11 : zH), J h11 = some r9 → zW X 9 Z 0 0 al hi h11 52 [(0, .ref x1), (2, .long x2), (4, .long x3), (7, .int x5)] []) hf ?_ ?_
        · intro h11 hf
          refine z_iconst C (v := 0) dX6_splitSigns_52 (by decide) ?_
          exact kJ9 _ _ hf
        · intro J12 kJ12 hf
          refine z_lload C dX6_splitSigns_16 2 rfl ?_
          refine z_ldc2 C (v := 100) mw_883 dX6_splitSigns_18 ?_
          refine z_lrem C dX6_splitSigns_21 hf (fun x13 _ hf => ?_)
          refine z_l2i C dX6_splitSigns_22 ?_
          refine z_istore C dX6_splitSigns_23 (by decide) (lv' := [(8, .int x13.toInt32), (0, .ref x1), (2, .long x2), (4, .long x3), (6, .int x4), (7, .int x5)]) rfl ?_
          refine z_aload_n C dX6_splitSigns_25 1 rfl rfl ?_
          refine z_getR C fl_X6_66 dX6_splitSigns_26 hf (fun x14 hf => ?_)
          refine z_iload C dX6_splitSigns_29 5 rfl ?_
          refine z_iload C dX6_splitSigns_31 0 rfl ?_
          obtain ⟨h16, g15, hf⟩ := zbind hf
          refine z_callV (kc' := 0) (ks' := 0) C (MX1_put (xl X) (xD X) (xT X) (xlo X) al hi g15) (OX1_put g15) rfl cw_X6_83 yv_X1_put dX6_splitSigns_33 rfl (by decide) ⟨rfl, rfl⟩ (Nat.le_of_ble_eq_true rfl) (st := []) rfl ?_
          refine z_iload C dX6_splitSigns_36 4 rfl ?_
          refine z_if_eq (tgt := 52) C dX6_splitSigns_38 (by decide) hf (fun hf => ?_) (fun hf => ?_)
          · refine z_sub [1, 2, 3, 5] rfl ?_
            exact kJ12 _ hf
          · refine z_iload C dX6_splitSigns_41 0 rfl ?_
            refine z_bipush C (v := 26) dX6_splitSigns_43 (by decide) ?_
            refine z_icmp_gt (tgt := 52) C dX6_splitSigns_45 (by decide) hf (fun hf => ?_) (fun hf => ?_)
            · refine z_sub [1, 2, 3, 5] rfl ?_
              exact kJ12 _ hf
            · refine z_iconst C (v := 1) dX6_splitSigns_48 (by decide) ?_
              refine z_goto (tgt := 53) C dX6_splitSigns_49 (by decide) ?_
              refine z_sub [1, 2, 3, 5] rfl ?_
              exact kJ9 _ _ hf
def FX6_splitSigns (T : zT) (a0 : Nat) (p0 : Int32) (p1 : Int64) (h : zH) : Option (Int32 × zH) := (zo h a0 6).bind fun _ => LX6_splitSigns_11 T a0 p1 (fun (x17 : Int64) (x18 : Int32) (h19 : zH) => zJ (fun (x20 : Int32) => if x20 = 0 ∨ x20 = 1 then some (x20, h19) else none) (fun J21 => zJ (fun (u9 : Unit) => J21 0) (fun J22 => if (lg_cmp p1 (0 : Int64)) < 0 then (J22 ()) else (if (lg_cmp x17 (0 : Int64)) = 0 then (if x18 = 0 then (J22 ()) else (J21 1)) else (J22 ()))))) FUEL p1 1 (p0 - 1) h
set_option maxHeartbeats 4000000 in
set_option maxRecDepth 100000 in
theorem BX6_splitSigns {X : zX} (C : zC X cX6_splitSigns 9 RX6 "splitSigns" (some .boolean) 1 22) {al : Bool} {hi : Nat} {h : zH} {a0 : Nat} {p0 : Int32} {p1 : Int64} {r9 : (Int32 × zH)} (hf : FX6_splitSigns (xT X) a0 p0 p1 h = some r9) : zW X 9 (zZ X al (some (.int r9.1), hi, r9.2)) 0 0 al hi h 0 [(0, .ref a0), (1, .int p0), (2, .long p1)] [] := by
  unfold FX6_splitSigns at hf
  obtain ⟨_, _, hf⟩ := zbind hf
  refine z_lload_n C dX6_splitSigns_0 2 rfl rfl ?_
  refine z_lstore C dX6_splitSigns_1 (by decide) (lv' := [(4, .long p1), (0, .ref a0), (1, .int p0), (2, .long p1)]) rfl ?_
  refine z_iconst C (v := 1) dX6_splitSigns_3 (by decide) ?_
  refine z_istore C dX6_splitSigns_4 (by decide) (lv' := [(6, .int 1), (4, .long p1), (0, .ref a0), (1, .int p0), (2, .long p1)]) rfl ?_
  refine z_iload_n C dX6_splitSigns_6 3 rfl rfl ?_
  refine z_iconst C (v := 1) dX6_splitSigns_7 (by decide) ?_
  refine z_isub C dX6_splitSigns_8 ?_
  refine z_istore C dX6_splitSigns_9 (by decide) (lv' := [(7, .int (p0 - 1)), (6, .int 1), (4, .long p1), (0, .ref a0), (1, .int p0), (2, .long p1)]) rfl ?_
  refine z_sub [3, 5, 2, 1, 0] rfl ?_
  refine LX6_splitSigns_11_ok C ?_ FUEL _ _ _ _ hf
  · intro x17 x18 h19 hf
    refine z_join (P := fun J => ∀ (x20 : Int32), J x20 = some r9 → zW X 9 (zZ X al (some (.int r9.1), hi, r9.2)) 0 0 al hi h19 92 [] [.int x20]) hf ?_ ?_
    · intro x20 hf
      refine z_ite hf (fun c hf => ?_) (fun c hf => nomatch hf)
      exact z_zreturn C dX6_splitSigns_92 c (by cases hf; rfl)
    · intro J21 kJ21 hf
      refine z_join (P := fun J => ∀ (u9 : Unit), J u9 = some r9 → zW X 9 (zZ X al (some (.int r9.1), hi, r9.2)) 0 0 al hi h19 91 [] []) hf ?_ ?_
      · intro u9 hf
        refine z_iconst C (v := 0) dX6_splitSigns_91 (by decide) ?_
        exact kJ21 _ hf
      · intro J22 kJ22 hf
        refine z_lload_n C dX6_splitSigns_69 0 rfl rfl ?_
        refine z_lconst C (v := 0) dX6_splitSigns_70 (by decide) ?_
        refine z_lcmp C dX6_splitSigns_71 ?_
        refine z_if_lt (tgt := 91) C dX6_splitSigns_72 (by decide) hf (fun hf => ?_) (fun hf => ?_)
        · refine z_sub [] rfl ?_
          exact kJ22 _ hf
        · refine z_lload C dX6_splitSigns_75 1 rfl ?_
          refine z_lconst C (v := 0) dX6_splitSigns_77 (by decide) ?_
          refine z_lcmp C dX6_splitSigns_78 ?_
          refine z_if_ne (tgt := 91) C dX6_splitSigns_79 (by decide) hf (fun hf => ?_) (fun hf => ?_)
          · refine z_sub [] rfl ?_
            exact kJ22 _ hf
          · refine z_iload C dX6_splitSigns_82 2 rfl ?_
            refine z_if_eq (tgt := 91) C dX6_splitSigns_84 (by decide) hf (fun hf => ?_) (fun hf => ?_)
            · refine z_sub [] rfl ?_
              exact kJ22 _ hf
            · refine z_iconst C (v := 1) dX6_splitSigns_87 (by decide) ?_
              refine z_goto (tgt := 92) C dX6_splitSigns_88 (by decide) ?_
              refine z_sub [] rfl ?_
              exact kJ21 _ hf
theorem MX6_splitSigns (l : Launch) (D : va_G) (T : zT) (lo : Nat) (al : Bool) (hi : Nat) {h : zH} {a0 : Nat} {p0 : Int32} {p1 : Int64} {v9 : Int32} {h9 : zH} (hf : FX6_splitSigns T a0 p0 p1 h = some (v9, h9)) : zM l yX6_splitSigns (.code yX6_splitSigns cX6_splitSigns 9 (some .boolean) :: TW) ({ frames := 1, cells := 0, slots := 0, locals := 22 } : Room) D T lo al [.ref a0, .int p0, .long p1] hi h (some (.int v9), hi, h9) :=
  z_enter (own := RX6) (nm := "splitSigns") (lv := [(0, .ref a0), (1, .int p0), (2, .long p1)]) (by decide +kernel) rfl rfl (Nat.le_of_ble_eq_true rfl) rfl (fun _ _ _ _ _ _ _ _ C => BX6_splitSigns C hf)
theorem OX6_splitSigns {T : zT} {h : zH} {a0 : Nat} {p0 : Int32} {p1 : Int64} {r9 : (Int32 × zH)} (hf : FX6_splitSigns T a0 p0 p1 h = some r9) : ∃ fs, h a0 = some (.inr (6, fs)) := by
  obtain ⟨_, h1, _⟩ := zbind hf
  exact zo_obj h1
theorem dX6_greatestMargin_0 : decode cX6_greatestMargin 0 = .ok (.aload_n 0, 1) := by decide +kernel
theorem dX6_greatestMargin_1 : decode cX6_greatestMargin 1 = .ok (.getfield 36, 3) := by decide +kernel
theorem dX6_greatestMargin_4 : decode cX6_greatestMargin 4 = .ok (.aload_n 0, 1) := by decide +kernel
theorem dX6_greatestMargin_5 : decode cX6_greatestMargin 5 = .ok (.getfield 32, 3) := by decide +kernel
theorem dX6_greatestMargin_8 : decode cX6_greatestMargin 8 = .ok (.invokevirtual 93, 3) := by decide +kernel
theorem dX6_greatestMargin_11 : decode cX6_greatestMargin 11 = .ok (.bipush 9, 2) := by decide +kernel
theorem dX6_greatestMargin_13 : decode cX6_greatestMargin 13 = .ok (.istore_n 1, 1) := by decide +kernel
theorem dX6_greatestMargin_14 : decode cX6_greatestMargin 14 = .ok (.iload_n 1, 1) := by decide +kernel
theorem dX6_greatestMargin_15 : decode cX6_greatestMargin 15 = .ok (.ifCond .lt 29, 3) := by decide +kernel
theorem dX6_greatestMargin_18 : decode cX6_greatestMargin 18 = .ok (.aload_n 0, 1) := by decide +kernel
theorem dX6_greatestMargin_19 : decode cX6_greatestMargin 19 = .ok (.getfield 36, 3) := by decide +kernel
theorem dX6_greatestMargin_22 : decode cX6_greatestMargin 22 = .ok (.iload_n 1, 1) := by decide +kernel
theorem dX6_greatestMargin_23 : decode cX6_greatestMargin 23 = .ok (.putfield 118, 3) := by decide +kernel
theorem dX6_greatestMargin_26 : decode cX6_greatestMargin 26 = .ok (.aload_n 0, 1) := by decide +kernel
theorem dX6_greatestMargin_27 : decode cX6_greatestMargin 27 = .ok (.getfield 36, 3) := by decide +kernel
theorem dX6_greatestMargin_30 : decode cX6_greatestMargin 30 = .ok (.invokevirtual 112, 3) := by decide +kernel
theorem dX6_greatestMargin_33 : decode cX6_greatestMargin 33 = .ok (.ifCond .ne 5, 3) := by decide +kernel
theorem dX6_greatestMargin_36 : decode cX6_greatestMargin 36 = .ok (.iload_n 1, 1) := by decide +kernel
theorem dX6_greatestMargin_37 : decode cX6_greatestMargin 37 = .ok (.ireturn, 1) := by decide +kernel
theorem dX6_greatestMargin_38 : decode cX6_greatestMargin 38 = .ok (.iinc 1 (-1), 3) := by decide +kernel
theorem dX6_greatestMargin_41 : decode cX6_greatestMargin 41 = .ok (.goto (-27), 3) := by decide +kernel
theorem dX6_greatestMargin_44 : decode cX6_greatestMargin 44 = .ok (.bipush (-9), 2) := by decide +kernel
theorem dX6_greatestMargin_46 : decode cX6_greatestMargin 46 = .ok (.ireturn, 1) := by decide +kernel
def LX6_greatestMargin_14 {ρ : Type} (T : zT) (x5 : Nat) (K0 : Int32 → zH → Option ρ) (K1 : zH → Option ρ) : Nat → Int32 → zH → Option ρ
  | 0, _, _ => none
  | k + 1, x6, h7 => if x6 < 0 then (K1 h7) else ((zgr h7 x5 6 4).bind fun x8 => (zpv h7 x8 3 2 (.int x6)).bind fun h9 => (zgr h9 x5 6 4).bind fun x10 => (FX3_countDoubtful T x10 h9).bind fun x12 => if x12 = 0 then (K0 x6 h9) else (LX6_greatestMargin_14 T x5 K0 K1 k (x6 + (-1 : Int32)) h9))
set_option maxHeartbeats 4000000 in
set_option maxRecDepth 100000 in
theorem LX6_greatestMargin_14_ok {X : zX} (C : zC X cX6_greatestMargin 2 RX6 "greatestMargin" (some .int) 5 118) {Z : State → Prop} {hi : Nat} {ρ : Type} {r9 : ρ} {x5 : Nat} {K0 : Int32 → zH → Option ρ} {K1 : zH → Option ρ} (hK0 : ∀ (y1 : Int32) (g9 : zH), K0 y1 g9 = some r9 → zW X 2 Z 0 0 false hi g9 36 [(1, .int y1)] []) (hK1 : ∀ (g9 : zH), K1 g9 = some r9 → zW X 2 Z 0 0 false hi g9 44 [] []) : ∀ (k : Nat) (x6 : Int32) (h7 : zH), LX6_greatestMargin_14 (xT X) x5 K0 K1 k x6 h7 = some r9 → zW X 2 Z 0 0 false hi h7 14 [(0, .ref x5), (1, .int x6)] [] := by
  intro k
  induction k with
  | zero =>
    intro x6 h7 hf
    have hf : none = some r9 := hf
    cases hf
  | succ k ih =>
    intro x6 h7 hf
    rw [LX6_greatestMargin_14.eq_2] at hf
    refine z_iload_n C dX6_greatestMargin_14 1 rfl rfl ?_
    refine z_if_lt (tgt := 44) C dX6_greatestMargin_15 (by decide) hf (fun hf => ?_) (fun hf => ?_)
    · refine z_sub [] rfl ?_
      exact hK1 _ hf
    · refine z_aload_n C dX6_greatestMargin_18 0 rfl rfl ?_
      refine z_getR C fl_X6_36 dX6_greatestMargin_19 hf (fun x8 hf => ?_)
      refine z_iload_n C dX6_greatestMargin_22 1 rfl rfl ?_
      refine z_put C fl_X6_118 dX6_greatestMargin_23 rfl rfl hf (fun h9 hf => ?_)
      refine z_aload_n C dX6_greatestMargin_26 0 rfl rfl ?_
      refine z_getR C fl_X6_36 dX6_greatestMargin_27 hf (fun x10 hf => ?_)
      obtain ⟨x12, g11, hf⟩ := zbind hf
      refine z_callV (kc' := 0) (ks' := 0) C (MX3_countDoubtful (xl X) (xD X) (xT X) (xlo X) false hi g11) (OX3_countDoubtful g11) rfl cw_X6_112 yv_X3_countDoubtful dX6_greatestMargin_30 rfl (by decide) ⟨rfl, rfl⟩ (Nat.le_of_ble_eq_true rfl) (st := []) rfl ?_
      refine z_if_ne (tgt := 38) C dX6_greatestMargin_33 (by decide) hf (fun hf => ?_) (fun hf => ?_)
      · refine z_iinc C dX6_greatestMargin_38 (k := 1) (d := (-1 : Int32)) rfl (by decide) (by decide) (lv' := [(1, .int (x6 + (-1 : Int32))), (0, .ref x5)]) rfl ?_
        refine z_goto (tgt := 14) C dX6_greatestMargin_41 (by decide) ?_
        refine z_sub [1, 0] rfl ?_
        exact ih _ _ hf
      · refine z_sub [1] rfl ?_
        exact hK0 _ _ hf
def FX6_greatestMargin (T : zT) (a0 : Nat) (h : zH) : Option (Int32 × zH) := (zo h a0 6).bind fun _ => (zgr h a0 6 4).bind fun x1 => (zgr h a0 6 3).bind fun x2 => (FX3_takeFrom T x1 x2 h).bind fun h4 => LX6_greatestMargin_14 T a0 (fun (x13 : Int32) (h14 : zH) => some (x13, h14)) (fun (h15 : zH) => some ((-9 : Int32), h15)) FUEL 9 h4
set_option maxHeartbeats 4000000 in
set_option maxRecDepth 100000 in
theorem BX6_greatestMargin {X : zX} (C : zC X cX6_greatestMargin 2 RX6 "greatestMargin" (some .int) 5 118) {hi : Nat} {h : zH} {a0 : Nat} {r9 : (Int32 × zH)} (hf : FX6_greatestMargin (xT X) a0 h = some r9) : zW X 2 (zZ X false (some (.int r9.1), hi, r9.2)) 0 0 false hi h 0 [(0, .ref a0)] [] := by
  unfold FX6_greatestMargin at hf
  obtain ⟨_, _, hf⟩ := zbind hf
  refine z_aload_n C dX6_greatestMargin_0 0 rfl rfl ?_
  refine z_getR C fl_X6_36 dX6_greatestMargin_1 hf (fun x1 hf => ?_)
  refine z_aload_n C dX6_greatestMargin_4 0 rfl rfl ?_
  refine z_getR C fl_X6_32 dX6_greatestMargin_5 hf (fun x2 hf => ?_)
  obtain ⟨h4, g3, hf⟩ := zbind hf
  refine z_callV (kc' := 0) (ks' := 0) C (MX3_takeFrom (xl X) (xD X) (xT X) (xlo X) hi g3) (OX3_takeFrom g3) rfl cw_X6_93 yv_X3_takeFrom dX6_greatestMargin_8 rfl (by decide) ⟨rfl, rfl⟩ (Nat.le_of_ble_eq_true rfl) (st := []) rfl ?_
  refine z_bipush C (v := 9) dX6_greatestMargin_11 (by decide) ?_
  refine z_istore_n C dX6_greatestMargin_13 rfl (by decide) (lv' := [(1, .int 9), (0, .ref a0)]) rfl ?_
  refine z_sub [1, 0] rfl ?_
  refine LX6_greatestMargin_14_ok C ?_ ?_ FUEL _ _ hf
  · intro x13 h14 hf
    refine z_iload_n C dX6_greatestMargin_36 0 rfl rfl ?_
    exact z_ireturn C dX6_greatestMargin_37 (by cases hf; rfl)
  · intro h15 hf
    refine z_bipush C (v := (-9 : Int32)) dX6_greatestMargin_44 (by decide) ?_
    exact z_ireturn C dX6_greatestMargin_46 (by cases hf; rfl)
theorem MX6_greatestMargin (l : Launch) (D : va_G) (T : zT) (lo : Nat) (hi : Nat) {h : zH} {a0 : Nat} {v9 : Int32} {h9 : zH} (hf : FX6_greatestMargin T a0 h = some (v9, h9)) : zM l yX6_greatestMargin (.code yX6_greatestMargin cX6_greatestMargin 2 (some .int) :: TW) ({ frames := 5, cells := 0, slots := 0, locals := 118 } : Room) D T lo false [.ref a0] hi h (some (.int v9), hi, h9) :=
  z_enter (own := RX6) (nm := "greatestMargin") (lv := [(0, .ref a0)]) (by decide +kernel) rfl rfl (Nat.le_of_ble_eq_true rfl) rfl (fun _ _ _ _ _ _ _ _ C => BX6_greatestMargin C hf)
theorem OX6_greatestMargin {T : zT} {h : zH} {a0 : Nat} {r9 : (Int32 × zH)} (hf : FX6_greatestMargin T a0 h = some r9) : ∃ fs, h a0 = some (.inr (6, fs)) := by
  obtain ⟨_, h1, _⟩ := zbind hf
  exact zo_obj h1
theorem dX6_splitScript_0 : decode cX6_splitScript 0 = .ok (.lload_n 2, 1) := by decide +kernel
theorem dX6_splitScript_1 : decode cX6_splitScript 1 = .ok (.lstore 4, 2) := by decide +kernel
theorem dX6_splitScript_3 : decode cX6_splitScript 3 = .ok (.iload_n 1, 1) := by decide +kernel
theorem dX6_splitScript_4 : decode cX6_splitScript 4 = .ok (.iconst 1, 1) := by decide +kernel
theorem dX6_splitScript_5 : decode cX6_splitScript 5 = .ok (.isub, 1) := by decide +kernel
theorem dX6_splitScript_6 : decode cX6_splitScript 6 = .ok (.istore 6, 2) := by decide +kernel
theorem dX6_splitScript_8 : decode cX6_splitScript 8 = .ok (.iload 6, 2) := by decide +kernel
theorem dX6_splitScript_10 : decode cX6_splitScript 10 = .ok (.ifCond .lt 33, 3) := by decide +kernel
theorem dX6_splitScript_13 : decode cX6_splitScript 13 = .ok (.aload_n 0, 1) := by decide +kernel
theorem dX6_splitScript_14 : decode cX6_splitScript 14 = .ok (.getfield 69, 3) := by decide +kernel
theorem dX6_splitScript_17 : decode cX6_splitScript 17 = .ok (.iload 6, 2) := by decide +kernel
theorem dX6_splitScript_19 : decode cX6_splitScript 19 = .ok (.lload 4, 2) := by decide +kernel
theorem dX6_splitScript_21 : decode cX6_splitScript 21 = .ok (.ldc2_w 356, 3) := by decide +kernel
theorem dX6_splitScript_24 : decode cX6_splitScript 24 = .ok (.lrem, 1) := by decide +kernel
theorem dX6_splitScript_25 : decode cX6_splitScript 25 = .ok (.l2i, 1) := by decide +kernel
theorem dX6_splitScript_26 : decode cX6_splitScript 26 = .ok (.invokevirtual 83, 3) := by decide +kernel
theorem dX6_splitScript_29 : decode cX6_splitScript 29 = .ok (.lload 4, 2) := by decide +kernel
theorem dX6_splitScript_31 : decode cX6_splitScript 31 = .ok (.ldc2_w 356, 3) := by decide +kernel
theorem dX6_splitScript_34 : decode cX6_splitScript 34 = .ok (.ldiv, 1) := by decide +kernel
theorem dX6_splitScript_35 : decode cX6_splitScript 35 = .ok (.lstore 4, 2) := by decide +kernel
theorem dX6_splitScript_37 : decode cX6_splitScript 37 = .ok (.iinc 6 (-1), 3) := by decide +kernel
theorem dX6_splitScript_40 : decode cX6_splitScript 40 = .ok (.goto (-32), 3) := by decide +kernel
theorem dX6_splitScript_43 : decode cX6_splitScript 43 = .ok (.lload_n 2, 1) := by decide +kernel
theorem dX6_splitScript_44 : decode cX6_splitScript 44 = .ok (.lconst 0, 1) := by decide +kernel
theorem dX6_splitScript_45 : decode cX6_splitScript 45 = .ok (.lcmp, 1) := by decide +kernel
theorem dX6_splitScript_46 : decode cX6_splitScript 46 = .ok (.ifCond .lt 14, 3) := by decide +kernel
theorem dX6_splitScript_49 : decode cX6_splitScript 49 = .ok (.lload 4, 2) := by decide +kernel
theorem dX6_splitScript_51 : decode cX6_splitScript 51 = .ok (.lconst 0, 1) := by decide +kernel
theorem dX6_splitScript_52 : decode cX6_splitScript 52 = .ok (.lcmp, 1) := by decide +kernel
theorem dX6_splitScript_53 : decode cX6_splitScript 53 = .ok (.ifCond .ne 7, 3) := by decide +kernel
theorem dX6_splitScript_56 : decode cX6_splitScript 56 = .ok (.iconst 1, 1) := by decide +kernel
theorem dX6_splitScript_57 : decode cX6_splitScript 57 = .ok (.goto 4, 3) := by decide +kernel
theorem dX6_splitScript_60 : decode cX6_splitScript 60 = .ok (.iconst 0, 1) := by decide +kernel
theorem dX6_splitScript_61 : decode cX6_splitScript 61 = .ok (.ireturn, 1) := by decide +kernel
def LX6_splitScript_8 {ρ : Type} (T : zT) (x1 : Nat) (x2 : Int64) (K0 : Int64 → zH → Option ρ) : Nat → Int64 → Int32 → zH → Option ρ
  | 0, _, _, _ => none
  | k + 1, x3, x4, h5 => if x4 < 0 then (K0 x3 h5) else ((zgr h5 x1 6 11).bind fun x6 => (zremL x3 (100000 : Int64)).bind fun x7 => (FX1_put T x6 x4 x7.toInt32 h5).bind fun h9 => (zdivL x3 (100000 : Int64)).bind fun x10 => LX6_splitScript_8 T x1 x2 K0 k x10 (x4 + (-1 : Int32)) h9)
set_option maxHeartbeats 4000000 in
set_option maxRecDepth 100000 in
theorem LX6_splitScript_8_ok {X : zX} (C : zC X cX6_splitScript 7 RX6 "splitScript" (some .boolean) 1 22) {Z : State → Prop} {al : Bool} {hi : Nat} {ρ : Type} {r9 : ρ} {x1 : Nat} {x2 : Int64} {K0 : Int64 → zH → Option ρ} (hK0 : ∀ (y4 : Int64) (g9 : zH), K0 y4 g9 = some r9 → zW X 7 Z 0 0 al hi g9 43 [(2, .long x2), (4, .long y4)] []) : ∀ (k : Nat) (x3 : Int64) (x4 : Int32) (h5 : zH), LX6_splitScript_8 (xT X) x1 x2 K0 k x3 x4 h5 = some r9 → zW X 7 Z 0 0 al hi h5 8 [(0, .ref x1), (2, .long x2), (4, .long x3), (6, .int x4)] [] := by
  intro k
  induction k with
  | zero =>
    intro x3 x4 h5 hf
    have hf : none = some r9 := hf
    cases hf
  | succ k ih =>
    intro x3 x4 h5 hf
    rw [LX6_splitScript_8.eq_2] at hf
    refine z_iload C dX6_splitScript_8 3 rfl ?_
    refine z_if_lt (tgt := 43) C dX6_splitScript_10 (by decide) hf (fun hf => ?_) (fun hf => ?_)
    · refine z_sub [1, 2] rfl ?_
      exact hK0 _ _ hf
    · refine z_aload_n C dX6_splitScript_13 0 rfl rfl ?_
      refine z_getR C fl_X6_69 dX6_splitScript_14 hf (fun x6 hf => ?_)
      refine z_iload C dX6_splitScript_17 3 rfl ?_
      refine z_lload C dX6_splitScript_19 2 rfl ?_
      refine z_ldc2 C (v := 100000) mw_931 dX6_splitScript_21 ?_
      refine z_lrem C dX6_splitScript_24 hf (fun x7 _ hf => ?_)
      refine z_l2i C dX6_splitScript_25 ?_
      obtain ⟨h9, g8, hf⟩ := zbind hf
      refine z_callV (kc' := 0) (ks' := 0) C (MX1_put (xl X) (xD X) (xT X) (xlo X) al hi g8) (OX1_put g8) rfl cw_X6_83 yv_X1_put dX6_splitScript_26 rfl (by decide) ⟨rfl, rfl⟩ (Nat.le_of_ble_eq_true rfl) (st := []) rfl ?_
      refine z_lload C dX6_splitScript_29 2 rfl ?_
      refine z_ldc2 C (v := 100000) mw_931 dX6_splitScript_31 ?_
      refine z_ldiv C dX6_splitScript_34 hf (fun x10 _ hf => ?_)
      refine z_lstore C dX6_splitScript_35 (by decide) (lv' := [(4, .long x10), (0, .ref x1), (2, .long x2), (6, .int x4)]) rfl ?_
      refine z_iinc C dX6_splitScript_37 (k := 3) (d := (-1 : Int32)) rfl (by decide) (by decide) (lv' := [(6, .int (x4 + (-1 : Int32))), (4, .long x10), (0, .ref x1), (2, .long x2)]) rfl ?_
      refine z_goto (tgt := 8) C dX6_splitScript_40 (by decide) ?_
      refine z_sub [2, 3, 1, 0] rfl ?_
      exact ih _ _ _ hf
def FX6_splitScript (T : zT) (a0 : Nat) (p0 : Int32) (p1 : Int64) (h : zH) : Option (Int32 × zH) := (zo h a0 6).bind fun _ => LX6_splitScript_8 T a0 p1 (fun (x11 : Int64) (h12 : zH) => zJ (fun (x13 : Int32) => if x13 = 0 ∨ x13 = 1 then some (x13, h12) else none) (fun J14 => zJ (fun (u9 : Unit) => J14 0) (fun J15 => if (lg_cmp p1 (0 : Int64)) < 0 then (J15 ()) else (if (lg_cmp x11 (0 : Int64)) = 0 then (J14 1) else (J15 ()))))) FUEL p1 (p0 - 1) h
set_option maxHeartbeats 4000000 in
set_option maxRecDepth 100000 in
theorem BX6_splitScript {X : zX} (C : zC X cX6_splitScript 7 RX6 "splitScript" (some .boolean) 1 22) {al : Bool} {hi : Nat} {h : zH} {a0 : Nat} {p0 : Int32} {p1 : Int64} {r9 : (Int32 × zH)} (hf : FX6_splitScript (xT X) a0 p0 p1 h = some r9) : zW X 7 (zZ X al (some (.int r9.1), hi, r9.2)) 0 0 al hi h 0 [(0, .ref a0), (1, .int p0), (2, .long p1)] [] := by
  unfold FX6_splitScript at hf
  obtain ⟨_, _, hf⟩ := zbind hf
  refine z_lload_n C dX6_splitScript_0 2 rfl rfl ?_
  refine z_lstore C dX6_splitScript_1 (by decide) (lv' := [(4, .long p1), (0, .ref a0), (1, .int p0), (2, .long p1)]) rfl ?_
  refine z_iload_n C dX6_splitScript_3 2 rfl rfl ?_
  refine z_iconst C (v := 1) dX6_splitScript_4 (by decide) ?_
  refine z_isub C dX6_splitScript_5 ?_
  refine z_istore C dX6_splitScript_6 (by decide) (lv' := [(6, .int (p0 - 1)), (4, .long p1), (0, .ref a0), (1, .int p0), (2, .long p1)]) rfl ?_
  refine z_sub [2, 4, 1, 0] rfl ?_
  refine LX6_splitScript_8_ok C ?_ FUEL _ _ _ hf
  · intro x11 h12 hf
    refine z_join (P := fun J => ∀ (x13 : Int32), J x13 = some r9 → zW X 7 (zZ X al (some (.int r9.1), hi, r9.2)) 0 0 al hi h12 61 [] [.int x13]) hf ?_ ?_
    · intro x13 hf
      refine z_ite hf (fun c hf => ?_) (fun c hf => nomatch hf)
      exact z_zreturn C dX6_splitScript_61 c (by cases hf; rfl)
    · intro J14 kJ14 hf
      refine z_join (P := fun J => ∀ (u9 : Unit), J u9 = some r9 → zW X 7 (zZ X al (some (.int r9.1), hi, r9.2)) 0 0 al hi h12 60 [] []) hf ?_ ?_
      · intro u9 hf
        refine z_iconst C (v := 0) dX6_splitScript_60 (by decide) ?_
        exact kJ14 _ hf
      · intro J15 kJ15 hf
        refine z_lload_n C dX6_splitScript_43 0 rfl rfl ?_
        refine z_lconst C (v := 0) dX6_splitScript_44 (by decide) ?_
        refine z_lcmp C dX6_splitScript_45 ?_
        refine z_if_lt (tgt := 60) C dX6_splitScript_46 (by decide) hf (fun hf => ?_) (fun hf => ?_)
        · refine z_sub [] rfl ?_
          exact kJ15 _ hf
        · refine z_lload C dX6_splitScript_49 1 rfl ?_
          refine z_lconst C (v := 0) dX6_splitScript_51 (by decide) ?_
          refine z_lcmp C dX6_splitScript_52 ?_
          refine z_if_ne (tgt := 60) C dX6_splitScript_53 (by decide) hf (fun hf => ?_) (fun hf => ?_)
          · refine z_sub [] rfl ?_
            exact kJ15 _ hf
          · refine z_iconst C (v := 1) dX6_splitScript_56 (by decide) ?_
            refine z_goto (tgt := 61) C dX6_splitScript_57 (by decide) ?_
            refine z_sub [] rfl ?_
            exact kJ14 _ hf
theorem MX6_splitScript (l : Launch) (D : va_G) (T : zT) (lo : Nat) (al : Bool) (hi : Nat) {h : zH} {a0 : Nat} {p0 : Int32} {p1 : Int64} {v9 : Int32} {h9 : zH} (hf : FX6_splitScript T a0 p0 p1 h = some (v9, h9)) : zM l yX6_splitScript (.code yX6_splitScript cX6_splitScript 7 (some .boolean) :: TW) ({ frames := 1, cells := 0, slots := 0, locals := 22 } : Room) D T lo al [.ref a0, .int p0, .long p1] hi h (some (.int v9), hi, h9) :=
  z_enter (own := RX6) (nm := "splitScript") (lv := [(0, .ref a0), (1, .int p0), (2, .long p1)]) (by decide +kernel) rfl rfl (Nat.le_of_ble_eq_true rfl) rfl (fun _ _ _ _ _ _ _ _ C => BX6_splitScript C hf)
theorem OX6_splitScript {T : zT} {h : zH} {a0 : Nat} {p0 : Int32} {p1 : Int64} {r9 : (Int32 × zH)} (hf : FX6_splitScript T a0 p0 p1 h = some r9) : ∃ fs, h a0 = some (.inr (6, fs)) := by
  obtain ⟨_, h1, _⟩ := zbind hf
  exact zo_obj h1
theorem dX6_tryDecide_0 : decode cX6_tryDecide 0 = .ok (.aload_n 0, 1) := by decide +kernel
theorem dX6_tryDecide_1 : decode cX6_tryDecide 1 = .ok (.getfield 36, 3) := by decide +kernel
theorem dX6_tryDecide_4 : decode cX6_tryDecide 4 = .ok (.iload_n 1, 1) := by decide +kernel
theorem dX6_tryDecide_5 : decode cX6_tryDecide 5 = .ok (.iload_n 2, 1) := by decide +kernel
theorem dX6_tryDecide_6 : decode cX6_tryDecide 6 = .ok (.iload_n 3, 1) := by decide +kernel
theorem dX6_tryDecide_7 : decode cX6_tryDecide 7 = .ok (.invokevirtual 328, 3) := by decide +kernel
theorem dX6_tryDecide_10 : decode cX6_tryDecide 10 = .ok (.ifCond .eq 24, 3) := by decide +kernel
theorem dX6_tryDecide_13 : decode cX6_tryDecide 13 = .ok (.iload 4, 2) := by decide +kernel
theorem dX6_tryDecide_15 : decode cX6_tryDecide 15 = .ok (.iconst 2, 1) := by decide +kernel
theorem dX6_tryDecide_16 : decode cX6_tryDecide 16 = .ok (.if_icmp .gt 18, 3) := by decide +kernel
theorem dX6_tryDecide_19 : decode cX6_tryDecide 19 = .ok (.aload_n 0, 1) := by decide +kernel
theorem dX6_tryDecide_20 : decode cX6_tryDecide 20 = .ok (.getfield 36, 3) := by decide +kernel
theorem dX6_tryDecide_23 : decode cX6_tryDecide 23 = .ok (.iload_n 1, 1) := by decide +kernel
theorem dX6_tryDecide_24 : decode cX6_tryDecide 24 = .ok (.iload_n 2, 1) := by decide +kernel
theorem dX6_tryDecide_25 : decode cX6_tryDecide 25 = .ok (.iload_n 3, 1) := by decide +kernel
theorem dX6_tryDecide_26 : decode cX6_tryDecide 26 = .ok (.iload 4, 2) := by decide +kernel
theorem dX6_tryDecide_28 : decode cX6_tryDecide 28 = .ok (.invokevirtual 223, 3) := by decide +kernel
theorem dX6_tryDecide_31 : decode cX6_tryDecide 31 = .ok (.ifCond .eq 5, 3) := by decide +kernel
theorem dX6_tryDecide_34 : decode cX6_tryDecide 34 = .ok (.iconst 0, 1) := by decide +kernel
theorem dX6_tryDecide_35 : decode cX6_tryDecide 35 = .ok (.ireturn, 1) := by decide +kernel
theorem dX6_tryDecide_36 : decode cX6_tryDecide 36 = .ok (.aload_n 0, 1) := by decide +kernel
theorem dX6_tryDecide_37 : decode cX6_tryDecide 37 = .ok (.getfield 36, 3) := by decide +kernel
theorem dX6_tryDecide_40 : decode cX6_tryDecide 40 = .ok (.iload_n 1, 1) := by decide +kernel
theorem dX6_tryDecide_41 : decode cX6_tryDecide 41 = .ok (.iload_n 2, 1) := by decide +kernel
theorem dX6_tryDecide_42 : decode cX6_tryDecide 42 = .ok (.iload_n 3, 1) := by decide +kernel
theorem dX6_tryDecide_43 : decode cX6_tryDecide 43 = .ok (.iload 4, 2) := by decide +kernel
theorem dX6_tryDecide_45 : decode cX6_tryDecide 45 = .ok (.invokevirtual 229, 3) := by decide +kernel
theorem dX6_tryDecide_48 : decode cX6_tryDecide 48 = .ok (.iconst 1, 1) := by decide +kernel
theorem dX6_tryDecide_49 : decode cX6_tryDecide 49 = .ok (.ireturn, 1) := by decide +kernel
def FX6_tryDecide (T : zT) (a0 : Nat) (p0 : Int32) (p1 : Int32) (p2 : Int32) (p3 : Int32) (h : zH) : Option (Int32 × zH) := (zo h a0 6).bind fun _ => zJ (fun (u9 : Unit) => some (0, h)) (fun J1 => (zgr h a0 6 4).bind fun x2 => (FX3_hasMark T x2 p0 p1 p2 h).bind fun x4 => if x4 = 0 then (J1 ()) else (if 2 < p3 then (J1 ()) else ((zgr h a0 6 4).bind fun x5 => (FX3_otherHasDecision T x5 p0 p1 p2 p3 h).bind fun x7 => if x7 = 0 then ((zgr h a0 6 4).bind fun x8 => (FX3_putDecision T x8 p0 p1 p2 p3 h).bind fun h10 => some (1, h10)) else (J1 ()))))
set_option maxHeartbeats 4000000 in
set_option maxRecDepth 100000 in
theorem BX6_tryDecide {X : zX} (C : zC X cX6_tryDecide 5 RX6 "tryDecide" (some .boolean) 4 92) {al : Bool} {hi : Nat} {h : zH} {a0 : Nat} {p0 : Int32} {p1 : Int32} {p2 : Int32} {p3 : Int32} {r9 : (Int32 × zH)} (hf : FX6_tryDecide (xT X) a0 p0 p1 p2 p3 h = some r9) : zW X 5 (zZ X al (some (.int r9.1), hi, r9.2)) 0 0 al hi h 0 [(0, .ref a0), (1, .int p0), (2, .int p1), (3, .int p2), (4, .int p3)] [] := by
  unfold FX6_tryDecide at hf
  obtain ⟨_, _, hf⟩ := zbind hf
  refine z_join (P := fun J => ∀ (u9 : Unit), J u9 = some r9 → zW X 5 (zZ X al (some (.int r9.1), hi, r9.2)) 0 0 al hi h 34 [] []) hf ?_ ?_
  · intro u9 hf
    refine z_iconst C (v := 0) dX6_tryDecide_34 (by decide) ?_
    exact z_zreturn C dX6_tryDecide_35 (Or.inl rfl) (by cases hf; rfl)
  · intro J1 kJ1 hf
    refine z_aload_n C dX6_tryDecide_0 0 rfl rfl ?_
    refine z_getR C fl_X6_36 dX6_tryDecide_1 hf (fun x2 hf => ?_)
    refine z_iload_n C dX6_tryDecide_4 1 rfl rfl ?_
    refine z_iload_n C dX6_tryDecide_5 2 rfl rfl ?_
    refine z_iload_n C dX6_tryDecide_6 3 rfl rfl ?_
    obtain ⟨x4, g3, hf⟩ := zbind hf
    refine z_callV (kc' := 0) (ks' := 0) C (MX3_hasMark (xl X) (xD X) (xT X) (xlo X) al hi g3) (OX3_hasMark g3) rfl cw_X6_328 yv_X3_hasMark dX6_tryDecide_7 rfl (by decide) ⟨rfl, rfl⟩ (Nat.le_of_ble_eq_true rfl) (st := []) rfl ?_
    refine z_if_eq (tgt := 34) C dX6_tryDecide_10 (by decide) hf (fun hf => ?_) (fun hf => ?_)
    · refine z_sub [] rfl ?_
      exact kJ1 _ hf
    · refine z_iload C dX6_tryDecide_13 4 rfl ?_
      refine z_iconst C (v := 2) dX6_tryDecide_15 (by decide) ?_
      refine z_icmp_gt (tgt := 34) C dX6_tryDecide_16 (by decide) hf (fun hf => ?_) (fun hf => ?_)
      · refine z_sub [] rfl ?_
        exact kJ1 _ hf
      · refine z_aload_n C dX6_tryDecide_19 0 rfl rfl ?_
        refine z_getR C fl_X6_36 dX6_tryDecide_20 hf (fun x5 hf => ?_)
        refine z_iload_n C dX6_tryDecide_23 1 rfl rfl ?_
        refine z_iload_n C dX6_tryDecide_24 2 rfl rfl ?_
        refine z_iload_n C dX6_tryDecide_25 3 rfl rfl ?_
        refine z_iload C dX6_tryDecide_26 4 rfl ?_
        obtain ⟨x7, g6, hf⟩ := zbind hf
        refine z_callV (kc' := 0) (ks' := 0) C (MX3_otherHasDecision (xl X) (xD X) (xT X) (xlo X) al hi g6) (OX3_otherHasDecision g6) rfl cw_X6_223 yv_X3_otherHasDecision dX6_tryDecide_28 rfl (by decide) ⟨rfl, rfl⟩ (Nat.le_of_ble_eq_true rfl) (st := []) rfl ?_
        refine z_if_eq (tgt := 36) C dX6_tryDecide_31 (by decide) hf (fun hf => ?_) (fun hf => ?_)
        · refine z_aload_n C dX6_tryDecide_36 0 rfl rfl ?_
          refine z_getR C fl_X6_36 dX6_tryDecide_37 hf (fun x8 hf => ?_)
          refine z_iload_n C dX6_tryDecide_40 1 rfl rfl ?_
          refine z_iload_n C dX6_tryDecide_41 2 rfl rfl ?_
          refine z_iload_n C dX6_tryDecide_42 3 rfl rfl ?_
          refine z_iload C dX6_tryDecide_43 4 rfl ?_
          obtain ⟨h10, g9, hf⟩ := zbind hf
          refine z_callV (kc' := 0) (ks' := 0) C (MX3_putDecision (xl X) (xD X) (xT X) (xlo X) al hi g9) (OX3_putDecision g9) rfl cw_X6_229 yv_X3_putDecision dX6_tryDecide_45 rfl (by decide) ⟨rfl, rfl⟩ (Nat.le_of_ble_eq_true rfl) (st := []) rfl ?_
          refine z_iconst C (v := 1) dX6_tryDecide_48 (by decide) ?_
          exact z_zreturn C dX6_tryDecide_49 (Or.inr rfl) (by cases hf; rfl)
        · refine z_sub [] rfl ?_
          exact kJ1 _ hf
theorem MX6_tryDecide (l : Launch) (D : va_G) (T : zT) (lo : Nat) (al : Bool) (hi : Nat) {h : zH} {a0 : Nat} {p0 : Int32} {p1 : Int32} {p2 : Int32} {p3 : Int32} {v9 : Int32} {h9 : zH} (hf : FX6_tryDecide T a0 p0 p1 p2 p3 h = some (v9, h9)) : zM l yX6_tryDecide (.code yX6_tryDecide cX6_tryDecide 5 (some .boolean) :: TW) ({ frames := 4, cells := 0, slots := 0, locals := 92 } : Room) D T lo al [.ref a0, .int p0, .int p1, .int p2, .int p3] hi h (some (.int v9), hi, h9) :=
  z_enter (own := RX6) (nm := "tryDecide") (lv := [(0, .ref a0), (1, .int p0), (2, .int p1), (3, .int p2), (4, .int p3)]) (by decide +kernel) rfl rfl (Nat.le_of_ble_eq_true rfl) rfl (fun _ _ _ _ _ _ _ _ C => BX6_tryDecide C hf)
theorem OX6_tryDecide {T : zT} {h : zH} {a0 : Nat} {p0 : Int32} {p1 : Int32} {p2 : Int32} {p3 : Int32} {r9 : (Int32 × zH)} (hf : FX6_tryDecide T a0 p0 p1 p2 p3 h = some r9) : ∃ fs, h a0 = some (.inr (6, fs)) := by
  obtain ⟨_, h1, _⟩ := zbind hf
  exact zo_obj h1
theorem dX6_tryErase_0 : decode cX6_tryErase 0 = .ok (.aload_n 0, 1) := by decide +kernel
theorem dX6_tryErase_1 : decode cX6_tryErase 1 = .ok (.getfield 36, 3) := by decide +kernel
theorem dX6_tryErase_4 : decode cX6_tryErase 4 = .ok (.iload_n 1, 1) := by decide +kernel
theorem dX6_tryErase_5 : decode cX6_tryErase 5 = .ok (.iload_n 2, 1) := by decide +kernel
theorem dX6_tryErase_6 : decode cX6_tryErase 6 = .ok (.iload_n 3, 1) := by decide +kernel
theorem dX6_tryErase_7 : decode cX6_tryErase 7 = .ok (.invokevirtual 328, 3) := by decide +kernel
theorem dX6_tryErase_10 : decode cX6_tryErase 10 = .ok (.ifCond .ne 5, 3) := by decide +kernel
theorem dX6_tryErase_13 : decode cX6_tryErase 13 = .ok (.iconst 0, 1) := by decide +kernel
theorem dX6_tryErase_14 : decode cX6_tryErase 14 = .ok (.ireturn, 1) := by decide +kernel
theorem dX6_tryErase_15 : decode cX6_tryErase 15 = .ok (.aload_n 0, 1) := by decide +kernel
theorem dX6_tryErase_16 : decode cX6_tryErase 16 = .ok (.getfield 36, 3) := by decide +kernel
theorem dX6_tryErase_19 : decode cX6_tryErase 19 = .ok (.iload_n 1, 1) := by decide +kernel
theorem dX6_tryErase_20 : decode cX6_tryErase 20 = .ok (.iload_n 2, 1) := by decide +kernel
theorem dX6_tryErase_21 : decode cX6_tryErase 21 = .ok (.iload_n 3, 1) := by decide +kernel
theorem dX6_tryErase_22 : decode cX6_tryErase 22 = .ok (.invokevirtual 220, 3) := by decide +kernel
theorem dX6_tryErase_25 : decode cX6_tryErase 25 = .ok (.iconst 1, 1) := by decide +kernel
theorem dX6_tryErase_26 : decode cX6_tryErase 26 = .ok (.ireturn, 1) := by decide +kernel
def FX6_tryErase (T : zT) (a0 : Nat) (p0 : Int32) (p1 : Int32) (p2 : Int32) (h : zH) : Option (Int32 × zH) := (zo h a0 6).bind fun _ => (zgr h a0 6 4).bind fun x1 => (FX3_hasMark T x1 p0 p1 p2 h).bind fun x3 => if x3 = 0 then (some (0, h)) else ((zgr h a0 6 4).bind fun x4 => (FX3_removeMark T x4 p0 p1 p2 h).bind fun h6 => some (1, h6))
set_option maxHeartbeats 4000000 in
set_option maxRecDepth 100000 in
theorem BX6_tryErase {X : zX} (C : zC X cX6_tryErase 4 RX6 "tryErase" (some .boolean) 3 71) {al : Bool} {hi : Nat} {h : zH} {a0 : Nat} {p0 : Int32} {p1 : Int32} {p2 : Int32} {r9 : (Int32 × zH)} (hf : FX6_tryErase (xT X) a0 p0 p1 p2 h = some r9) : zW X 4 (zZ X al (some (.int r9.1), hi, r9.2)) 0 0 al hi h 0 [(0, .ref a0), (1, .int p0), (2, .int p1), (3, .int p2)] [] := by
  unfold FX6_tryErase at hf
  obtain ⟨_, _, hf⟩ := zbind hf
  refine z_aload_n C dX6_tryErase_0 0 rfl rfl ?_
  refine z_getR C fl_X6_36 dX6_tryErase_1 hf (fun x1 hf => ?_)
  refine z_iload_n C dX6_tryErase_4 1 rfl rfl ?_
  refine z_iload_n C dX6_tryErase_5 2 rfl rfl ?_
  refine z_iload_n C dX6_tryErase_6 3 rfl rfl ?_
  obtain ⟨x3, g2, hf⟩ := zbind hf
  refine z_callV (kc' := 0) (ks' := 0) C (MX3_hasMark (xl X) (xD X) (xT X) (xlo X) al hi g2) (OX3_hasMark g2) rfl cw_X6_328 yv_X3_hasMark dX6_tryErase_7 rfl (by decide) ⟨rfl, rfl⟩ (Nat.le_of_ble_eq_true rfl) (st := []) rfl ?_
  refine z_if_ne (tgt := 15) C dX6_tryErase_10 (by decide) hf (fun hf => ?_) (fun hf => ?_)
  · refine z_aload_n C dX6_tryErase_15 0 rfl rfl ?_
    refine z_getR C fl_X6_36 dX6_tryErase_16 hf (fun x4 hf => ?_)
    refine z_iload_n C dX6_tryErase_19 1 rfl rfl ?_
    refine z_iload_n C dX6_tryErase_20 2 rfl rfl ?_
    refine z_iload_n C dX6_tryErase_21 3 rfl rfl ?_
    obtain ⟨h6, g5, hf⟩ := zbind hf
    refine z_callV (kc' := 0) (ks' := 0) C (MX3_removeMark (xl X) (xD X) (xT X) (xlo X) al hi g5) (OX3_removeMark g5) rfl cw_X6_220 yv_X3_removeMark dX6_tryErase_22 rfl (by decide) ⟨rfl, rfl⟩ (Nat.le_of_ble_eq_true rfl) (st := []) rfl ?_
    refine z_iconst C (v := 1) dX6_tryErase_25 (by decide) ?_
    exact z_zreturn C dX6_tryErase_26 (Or.inr rfl) (by cases hf; rfl)
  · refine z_iconst C (v := 0) dX6_tryErase_13 (by decide) ?_
    exact z_zreturn C dX6_tryErase_14 (Or.inl rfl) (by cases hf; rfl)
theorem MX6_tryErase (l : Launch) (D : va_G) (T : zT) (lo : Nat) (al : Bool) (hi : Nat) {h : zH} {a0 : Nat} {p0 : Int32} {p1 : Int32} {p2 : Int32} {v9 : Int32} {h9 : zH} (hf : FX6_tryErase T a0 p0 p1 p2 h = some (v9, h9)) : zM l yX6_tryErase (.code yX6_tryErase cX6_tryErase 4 (some .boolean) :: TW) ({ frames := 3, cells := 0, slots := 0, locals := 71 } : Room) D T lo al [.ref a0, .int p0, .int p1, .int p2] hi h (some (.int v9), hi, h9) :=
  z_enter (own := RX6) (nm := "tryErase") (lv := [(0, .ref a0), (1, .int p0), (2, .int p1), (3, .int p2)]) (by decide +kernel) rfl rfl (Nat.le_of_ble_eq_true rfl) rfl (fun _ _ _ _ _ _ _ _ C => BX6_tryErase C hf)
theorem OX6_tryErase {T : zT} {h : zH} {a0 : Nat} {p0 : Int32} {p1 : Int32} {p2 : Int32} {r9 : (Int32 × zH)} (hf : FX6_tryErase T a0 p0 p1 p2 h = some r9) : ∃ fs, h a0 = some (.inr (6, fs)) := by
  obtain ⟨_, h1, _⟩ := zbind hf
  exact zo_obj h1
theorem dX6_trySetLetter_0 : decode cX6_trySetLetter 0 = .ok (.iload_n 1, 1) := by decide +kernel
theorem dX6_trySetLetter_1 : decode cX6_trySetLetter 1 = .ok (.invokestatic 313, 3) := by decide +kernel
theorem dX6_trySetLetter_4 : decode cX6_trySetLetter 4 = .ok (.ifCond .eq 20, 3) := by decide +kernel
theorem dX6_trySetLetter_7 : decode cX6_trySetLetter 7 = .ok (.iload_n 2, 1) := by decide +kernel
theorem dX6_trySetLetter_8 : decode cX6_trySetLetter 8 = .ok (.iconst 3, 1) := by decide +kernel
theorem dX6_trySetLetter_9 : decode cX6_trySetLetter 9 = .ok (.if_icmp .gt 15, 3) := by decide +kernel
theorem dX6_trySetLetter_12 : decode cX6_trySetLetter 12 = .ok (.iload_n 3, 1) := by decide +kernel
theorem dX6_trySetLetter_13 : decode cX6_trySetLetter 13 = .ok (.bipush 8, 2) := by decide +kernel
theorem dX6_trySetLetter_15 : decode cX6_trySetLetter 15 = .ok (.if_icmp .gt 9, 3) := by decide +kernel
theorem dX6_trySetLetter_18 : decode cX6_trySetLetter 18 = .ok (.iload 4, 2) := by decide +kernel
theorem dX6_trySetLetter_20 : decode cX6_trySetLetter 20 = .ok (.iconst 1, 1) := by decide +kernel
theorem dX6_trySetLetter_21 : decode cX6_trySetLetter 21 = .ok (.if_icmp .le 5, 3) := by decide +kernel
theorem dX6_trySetLetter_24 : decode cX6_trySetLetter 24 = .ok (.iconst 0, 1) := by decide +kernel
theorem dX6_trySetLetter_25 : decode cX6_trySetLetter 25 = .ok (.ireturn, 1) := by decide +kernel
theorem dX6_trySetLetter_26 : decode cX6_trySetLetter 26 = .ok (.aload_n 0, 1) := by decide +kernel
theorem dX6_trySetLetter_27 : decode cX6_trySetLetter 27 = .ok (.getfield 36, 3) := by decide +kernel
theorem dX6_trySetLetter_30 : decode cX6_trySetLetter 30 = .ok (.iload_n 1, 1) := by decide +kernel
theorem dX6_trySetLetter_31 : decode cX6_trySetLetter 31 = .ok (.iload_n 2, 1) := by decide +kernel
theorem dX6_trySetLetter_32 : decode cX6_trySetLetter 32 = .ok (.iload_n 3, 1) := by decide +kernel
theorem dX6_trySetLetter_33 : decode cX6_trySetLetter 33 = .ok (.iload 4, 2) := by decide +kernel
theorem dX6_trySetLetter_35 : decode cX6_trySetLetter 35 = .ok (.invokevirtual 233, 3) := by decide +kernel
theorem dX6_trySetLetter_38 : decode cX6_trySetLetter 38 = .ok (.iconst 1, 1) := by decide +kernel
theorem dX6_trySetLetter_39 : decode cX6_trySetLetter 39 = .ok (.ireturn, 1) := by decide +kernel
def FX6_trySetLetter (T : zT) (a0 : Nat) (p0 : Int32) (p1 : Int32) (p2 : Int32) (p3 : Int32) (h : zH) : Option (Int32 × zH) := (zo h a0 6).bind fun _ => zJ (fun (u9 : Unit) => some (0, h)) (fun J1 => (FX6_isLetter T p0 h).bind fun x3 => if x3 = 0 then (J1 ()) else (if 3 < p1 then (J1 ()) else (if 8 < p2 then (J1 ()) else (if p3 ≤ 1 then ((zgr h a0 6 4).bind fun x4 => (FX3_putLetter T x4 p0 p1 p2 p3 h).bind fun h6 => some (1, h6)) else (J1 ())))))
set_option maxHeartbeats 4000000 in
set_option maxRecDepth 100000 in
theorem BX6_trySetLetter {X : zX} (C : zC X cX6_trySetLetter 5 RX6 "trySetLetter" (some .boolean) 2 46) {al : Bool} {hi : Nat} {h : zH} {a0 : Nat} {p0 : Int32} {p1 : Int32} {p2 : Int32} {p3 : Int32} {r9 : (Int32 × zH)} (hf : FX6_trySetLetter (xT X) a0 p0 p1 p2 p3 h = some r9) : zW X 5 (zZ X al (some (.int r9.1), hi, r9.2)) 0 0 al hi h 0 [(0, .ref a0), (1, .int p0), (2, .int p1), (3, .int p2), (4, .int p3)] [] := by
  unfold FX6_trySetLetter at hf
  obtain ⟨_, _, hf⟩ := zbind hf
  refine z_join (P := fun J => ∀ (u9 : Unit), J u9 = some r9 → zW X 5 (zZ X al (some (.int r9.1), hi, r9.2)) 0 0 al hi h 24 [] []) hf ?_ ?_
  · intro u9 hf
    refine z_iconst C (v := 0) dX6_trySetLetter_24 (by decide) ?_
    exact z_zreturn C dX6_trySetLetter_25 (Or.inl rfl) (by cases hf; rfl)
  · intro J1 kJ1 hf
    refine z_iload_n C dX6_trySetLetter_0 1 rfl rfl ?_
    obtain ⟨x3, g2, hf⟩ := zbind hf
    refine z_callS (kc' := 0) (ks' := 0) C (MX6_isLetter (xl X) (xD X) (xT X) (xlo X) al hi g2) cw_X6_313 ys_X6_isLetter dX6_trySetLetter_1 rfl (by decide) ⟨rfl, rfl⟩ (Nat.le_of_ble_eq_true rfl) (st := []) rfl ?_
    refine z_if_eq (tgt := 24) C dX6_trySetLetter_4 (by decide) hf (fun hf => ?_) (fun hf => ?_)
    · refine z_sub [] rfl ?_
      exact kJ1 _ hf
    · refine z_iload_n C dX6_trySetLetter_7 2 rfl rfl ?_
      refine z_iconst C (v := 3) dX6_trySetLetter_8 (by decide) ?_
      refine z_icmp_gt (tgt := 24) C dX6_trySetLetter_9 (by decide) hf (fun hf => ?_) (fun hf => ?_)
      · refine z_sub [] rfl ?_
        exact kJ1 _ hf
      · refine z_iload_n C dX6_trySetLetter_12 3 rfl rfl ?_
        refine z_bipush C (v := 8) dX6_trySetLetter_13 (by decide) ?_
        refine z_icmp_gt (tgt := 24) C dX6_trySetLetter_15 (by decide) hf (fun hf => ?_) (fun hf => ?_)
        · refine z_sub [] rfl ?_
          exact kJ1 _ hf
        · refine z_iload C dX6_trySetLetter_18 4 rfl ?_
          refine z_iconst C (v := 1) dX6_trySetLetter_20 (by decide) ?_
          refine z_icmp_le (tgt := 26) C dX6_trySetLetter_21 (by decide) hf (fun hf => ?_) (fun hf => ?_)
          · refine z_aload_n C dX6_trySetLetter_26 0 rfl rfl ?_
            refine z_getR C fl_X6_36 dX6_trySetLetter_27 hf (fun x4 hf => ?_)
            refine z_iload_n C dX6_trySetLetter_30 1 rfl rfl ?_
            refine z_iload_n C dX6_trySetLetter_31 2 rfl rfl ?_
            refine z_iload_n C dX6_trySetLetter_32 3 rfl rfl ?_
            refine z_iload C dX6_trySetLetter_33 4 rfl ?_
            obtain ⟨h6, g5, hf⟩ := zbind hf
            refine z_callV (kc' := 0) (ks' := 0) C (MX3_putLetter (xl X) (xD X) (xT X) (xlo X) al hi g5) (OX3_putLetter g5) rfl cw_X6_233 yv_X3_putLetter dX6_trySetLetter_35 rfl (by decide) ⟨rfl, rfl⟩ (Nat.le_of_ble_eq_true rfl) (st := []) rfl ?_
            refine z_iconst C (v := 1) dX6_trySetLetter_38 (by decide) ?_
            exact z_zreturn C dX6_trySetLetter_39 (Or.inr rfl) (by cases hf; rfl)
          · refine z_sub [] rfl ?_
            exact kJ1 _ hf
theorem MX6_trySetLetter (l : Launch) (D : va_G) (T : zT) (lo : Nat) (al : Bool) (hi : Nat) {h : zH} {a0 : Nat} {p0 : Int32} {p1 : Int32} {p2 : Int32} {p3 : Int32} {v9 : Int32} {h9 : zH} (hf : FX6_trySetLetter T a0 p0 p1 p2 p3 h = some (v9, h9)) : zM l yX6_trySetLetter (.code yX6_trySetLetter cX6_trySetLetter 5 (some .boolean) :: TW) ({ frames := 2, cells := 0, slots := 0, locals := 46 } : Room) D T lo al [.ref a0, .int p0, .int p1, .int p2, .int p3] hi h (some (.int v9), hi, h9) :=
  z_enter (own := RX6) (nm := "trySetLetter") (lv := [(0, .ref a0), (1, .int p0), (2, .int p1), (3, .int p2), (4, .int p3)]) (by decide +kernel) rfl rfl (Nat.le_of_ble_eq_true rfl) rfl (fun _ _ _ _ _ _ _ _ C => BX6_trySetLetter C hf)
theorem OX6_trySetLetter {T : zT} {h : zH} {a0 : Nat} {p0 : Int32} {p1 : Int32} {p2 : Int32} {p3 : Int32} {r9 : (Int32 × zH)} (hf : FX6_trySetLetter T a0 p0 p1 p2 p3 h = some r9) : ∃ fs, h a0 = some (.inr (6, fs)) := by
  obtain ⟨_, h1, _⟩ := zbind hf
  exact zo_obj h1
theorem dX6_trySetMargin_0 : decode cX6_trySetMargin 0 = .ok (.aload_n 0, 1) := by decide +kernel
theorem dX6_trySetMargin_1 : decode cX6_trySetMargin 1 = .ok (.getfield 36, 3) := by decide +kernel
theorem dX6_trySetMargin_4 : decode cX6_trySetMargin 4 = .ok (.iload_n 1, 1) := by decide +kernel
theorem dX6_trySetMargin_5 : decode cX6_trySetMargin 5 = .ok (.putfield 118, 3) := by decide +kernel
theorem dX6_trySetMargin_8 : decode cX6_trySetMargin 8 = .ok (.iconst 1, 1) := by decide +kernel
theorem dX6_trySetMargin_9 : decode cX6_trySetMargin 9 = .ok (.ireturn, 1) := by decide +kernel
def FX6_trySetMargin (T : zT) (a0 : Nat) (p0 : Int32) (h : zH) : Option (Int32 × zH) := (zo h a0 6).bind fun _ => (zgr h a0 6 4).bind fun x1 => (zpv h x1 3 2 (.int p0)).bind fun h2 => some (1, h2)
set_option maxHeartbeats 4000000 in
set_option maxRecDepth 100000 in
theorem BX6_trySetMargin {X : zX} (C : zC X cX6_trySetMargin 2 RX6 "trySetMargin" (some .boolean) 0 0) {al : Bool} {hi : Nat} {h : zH} {a0 : Nat} {p0 : Int32} {r9 : (Int32 × zH)} (hf : FX6_trySetMargin (xT X) a0 p0 h = some r9) : zW X 2 (zZ X al (some (.int r9.1), hi, r9.2)) 0 0 al hi h 0 [(0, .ref a0), (1, .int p0)] [] := by
  unfold FX6_trySetMargin at hf
  obtain ⟨_, _, hf⟩ := zbind hf
  refine z_aload_n C dX6_trySetMargin_0 0 rfl rfl ?_
  refine z_getR C fl_X6_36 dX6_trySetMargin_1 hf (fun x1 hf => ?_)
  refine z_iload_n C dX6_trySetMargin_4 1 rfl rfl ?_
  refine z_put C fl_X6_118 dX6_trySetMargin_5 rfl rfl hf (fun h2 hf => ?_)
  refine z_iconst C (v := 1) dX6_trySetMargin_8 (by decide) ?_
  exact z_zreturn C dX6_trySetMargin_9 (Or.inr rfl) (by cases hf; rfl)
theorem MX6_trySetMargin (l : Launch) (D : va_G) (T : zT) (lo : Nat) (al : Bool) (hi : Nat) {h : zH} {a0 : Nat} {p0 : Int32} {v9 : Int32} {h9 : zH} (hf : FX6_trySetMargin T a0 p0 h = some (v9, h9)) : zM l yX6_trySetMargin (.code yX6_trySetMargin cX6_trySetMargin 2 (some .boolean) :: TW) ({ frames := 0, cells := 0, slots := 0, locals := 0 } : Room) D T lo al [.ref a0, .int p0] hi h (some (.int v9), hi, h9) :=
  z_enter (own := RX6) (nm := "trySetMargin") (lv := [(0, .ref a0), (1, .int p0)]) (by decide +kernel) rfl rfl (Nat.le_of_ble_eq_true rfl) rfl (fun _ _ _ _ _ _ _ _ C => BX6_trySetMargin C hf)
theorem OX6_trySetMargin {T : zT} {h : zH} {a0 : Nat} {p0 : Int32} {r9 : (Int32 × zH)} (hf : FX6_trySetMargin T a0 p0 h = some r9) : ∃ fs, h a0 = some (.inr (6, fs)) := by
  obtain ⟨_, h1, _⟩ := zbind hf
  exact zo_obj h1
theorem dX6_tryTurn_0 : decode cX6_tryTurn 0 = .ok (.aload_n 0, 1) := by decide +kernel
theorem dX6_tryTurn_1 : decode cX6_tryTurn 1 = .ok (.getfield 36, 3) := by decide +kernel
theorem dX6_tryTurn_4 : decode cX6_tryTurn 4 = .ok (.aload_n 0, 1) := by decide +kernel
theorem dX6_tryTurn_5 : decode cX6_tryTurn 5 = .ok (.getfield 39, 3) := by decide +kernel
theorem dX6_tryTurn_8 : decode cX6_tryTurn 8 = .ok (.invokevirtual 236, 3) := by decide +kernel
theorem dX6_tryTurn_11 : decode cX6_tryTurn 11 = .ok (.iconst 1, 1) := by decide +kernel
theorem dX6_tryTurn_12 : decode cX6_tryTurn 12 = .ok (.ireturn, 1) := by decide +kernel
def FX6_tryTurn (T : zT) (a0 : Nat) (h : zH) : Option (Int32 × zH) := (zo h a0 6).bind fun _ => (zgr h a0 6 4).bind fun x1 => (zgr h a0 6 5).bind fun x2 => (FX3_turnByQuarter T x1 x2 h).bind fun h4 => some (1, h4)
set_option maxHeartbeats 4000000 in
set_option maxRecDepth 100000 in
theorem BX6_tryTurn {X : zX} (C : zC X cX6_tryTurn 1 RX6 "tryTurn" (some .boolean) 4 98) {hi : Nat} {h : zH} {a0 : Nat} {r9 : (Int32 × zH)} (hf : FX6_tryTurn (xT X) a0 h = some r9) : zW X 1 (zZ X false (some (.int r9.1), hi, r9.2)) 0 0 false hi h 0 [(0, .ref a0)] [] := by
  unfold FX6_tryTurn at hf
  obtain ⟨_, _, hf⟩ := zbind hf
  refine z_aload_n C dX6_tryTurn_0 0 rfl rfl ?_
  refine z_getR C fl_X6_36 dX6_tryTurn_1 hf (fun x1 hf => ?_)
  refine z_aload_n C dX6_tryTurn_4 0 rfl rfl ?_
  refine z_getR C fl_X6_39 dX6_tryTurn_5 hf (fun x2 hf => ?_)
  obtain ⟨h4, g3, hf⟩ := zbind hf
  refine z_callV (kc' := 0) (ks' := 0) C (MX3_turnByQuarter (xl X) (xD X) (xT X) (xlo X) hi g3) (OX3_turnByQuarter g3) rfl cw_X6_236 yv_X3_turnByQuarter dX6_tryTurn_8 rfl (by decide) ⟨rfl, rfl⟩ (Nat.le_of_ble_eq_true rfl) (st := []) rfl ?_
  refine z_iconst C (v := 1) dX6_tryTurn_11 (by decide) ?_
  exact z_zreturn C dX6_tryTurn_12 (Or.inr rfl) (by cases hf; rfl)
theorem MX6_tryTurn (l : Launch) (D : va_G) (T : zT) (lo : Nat) (hi : Nat) {h : zH} {a0 : Nat} {v9 : Int32} {h9 : zH} (hf : FX6_tryTurn T a0 h = some (v9, h9)) : zM l yX6_tryTurn (.code yX6_tryTurn cX6_tryTurn 1 (some .boolean) :: TW) ({ frames := 4, cells := 0, slots := 0, locals := 98 } : Room) D T lo false [.ref a0] hi h (some (.int v9), hi, h9) :=
  z_enter (own := RX6) (nm := "tryTurn") (lv := [(0, .ref a0)]) (by decide +kernel) rfl rfl (Nat.le_of_ble_eq_true rfl) rfl (fun _ _ _ _ _ _ _ _ C => BX6_tryTurn C hf)
theorem OX6_tryTurn {T : zT} {h : zH} {a0 : Nat} {r9 : (Int32 × zH)} (hf : FX6_tryTurn T a0 h = some r9) : ∃ fs, h a0 = some (.inr (6, fs)) := by
  obtain ⟨_, h1, _⟩ := zbind hf
  exact zo_obj h1
theorem dX6_succeeds_0 : decode cX6_succeeds 0 = .ok (.iload_n 1, 1) := by decide +kernel
theorem dX6_succeeds_1 : decode cX6_succeeds 1 = .ok (.sipush 1000, 3) := by decide +kernel
theorem dX6_succeeds_4 : decode cX6_succeeds 4 = .ok (.idiv, 1) := by decide +kernel
theorem dX6_succeeds_5 : decode cX6_succeeds 5 = .ok (.bipush 10, 2) := by decide +kernel
theorem dX6_succeeds_7 : decode cX6_succeeds 7 = .ok (.irem, 1) := by decide +kernel
theorem dX6_succeeds_8 : decode cX6_succeeds 8 = .ok (.istore_n 2, 1) := by decide +kernel
theorem dX6_succeeds_9 : decode cX6_succeeds 9 = .ok (.iload_n 1, 1) := by decide +kernel
theorem dX6_succeeds_10 : decode cX6_succeeds 10 = .ok (.bipush 100, 2) := by decide +kernel
theorem dX6_succeeds_12 : decode cX6_succeeds 12 = .ok (.idiv, 1) := by decide +kernel
theorem dX6_succeeds_13 : decode cX6_succeeds 13 = .ok (.bipush 10, 2) := by decide +kernel
theorem dX6_succeeds_15 : decode cX6_succeeds 15 = .ok (.irem, 1) := by decide +kernel
theorem dX6_succeeds_16 : decode cX6_succeeds 16 = .ok (.istore_n 3, 1) := by decide +kernel
theorem dX6_succeeds_17 : decode cX6_succeeds 17 = .ok (.iload_n 1, 1) := by decide +kernel
theorem dX6_succeeds_18 : decode cX6_succeeds 18 = .ok (.bipush 10, 2) := by decide +kernel
theorem dX6_succeeds_20 : decode cX6_succeeds 20 = .ok (.idiv, 1) := by decide +kernel
theorem dX6_succeeds_21 : decode cX6_succeeds 21 = .ok (.bipush 10, 2) := by decide +kernel
theorem dX6_succeeds_23 : decode cX6_succeeds 23 = .ok (.irem, 1) := by decide +kernel
theorem dX6_succeeds_24 : decode cX6_succeeds 24 = .ok (.istore 4, 2) := by decide +kernel
theorem dX6_succeeds_26 : decode cX6_succeeds 26 = .ok (.iload_n 1, 1) := by decide +kernel
theorem dX6_succeeds_27 : decode cX6_succeeds 27 = .ok (.bipush 10, 2) := by decide +kernel
theorem dX6_succeeds_29 : decode cX6_succeeds 29 = .ok (.irem, 1) := by decide +kernel
theorem dX6_succeeds_30 : decode cX6_succeeds 30 = .ok (.istore 5, 2) := by decide +kernel
theorem dX6_succeeds_32 : decode cX6_succeeds 32 = .ok (.bipush 10, 2) := by decide +kernel
theorem dX6_succeeds_34 : decode cX6_succeeds 34 = .ok (.iload 4, 2) := by decide +kernel
theorem dX6_succeeds_36 : decode cX6_succeeds 36 = .ok (.imul, 1) := by decide +kernel
theorem dX6_succeeds_37 : decode cX6_succeeds 37 = .ok (.iload 5, 2) := by decide +kernel
theorem dX6_succeeds_39 : decode cX6_succeeds 39 = .ok (.iadd, 1) := by decide +kernel
theorem dX6_succeeds_40 : decode cX6_succeeds 40 = .ok (.istore 6, 2) := by decide +kernel
theorem dX6_succeeds_42 : decode cX6_succeeds 42 = .ok (.iload_n 1, 1) := by decide +kernel
theorem dX6_succeeds_43 : decode cX6_succeeds 43 = .ok (.sipush 10000, 3) := by decide +kernel
theorem dX6_succeeds_46 : decode cX6_succeeds 46 = .ok (.idiv, 1) := by decide +kernel
theorem dX6_succeeds_47 : decode cX6_succeeds 47 = .ok (.tableswitch 308 1 9 #[49, 60, 82, 93, 121, 147, 188, 214, 263], 49) := by decide +kernel
theorem dX6_succeeds_96 : decode cX6_succeeds 96 = .ok (.aload_n 0, 1) := by decide +kernel
theorem dX6_succeeds_97 : decode cX6_succeeds 97 = .ok (.iload_n 2, 1) := by decide +kernel
theorem dX6_succeeds_98 : decode cX6_succeeds 98 = .ok (.iload_n 3, 1) := by decide +kernel
theorem dX6_succeeds_99 : decode cX6_succeeds 99 = .ok (.iload 4, 2) := by decide +kernel
theorem dX6_succeeds_101 : decode cX6_succeeds 101 = .ok (.iload 5, 2) := by decide +kernel
theorem dX6_succeeds_103 : decode cX6_succeeds 103 = .ok (.invokevirtual 358, 3) := by decide +kernel
theorem dX6_succeeds_106 : decode cX6_succeeds 106 = .ok (.ireturn, 1) := by decide +kernel
theorem dX6_succeeds_107 : decode cX6_succeeds 107 = .ok (.iload 5, 2) := by decide +kernel
theorem dX6_succeeds_109 : decode cX6_succeeds 109 = .ok (.ifCond .ne 18, 3) := by decide +kernel
theorem dX6_succeeds_112 : decode cX6_succeeds 112 = .ok (.aload_n 0, 1) := by decide +kernel
theorem dX6_succeeds_113 : decode cX6_succeeds 113 = .ok (.iload_n 2, 1) := by decide +kernel
theorem dX6_succeeds_114 : decode cX6_succeeds 114 = .ok (.iload_n 3, 1) := by decide +kernel
theorem dX6_succeeds_115 : decode cX6_succeeds 115 = .ok (.iload 4, 2) := by decide +kernel
theorem dX6_succeeds_117 : decode cX6_succeeds 117 = .ok (.invokevirtual 361, 3) := by decide +kernel
theorem dX6_succeeds_120 : decode cX6_succeeds 120 = .ok (.ifCond .eq 7, 3) := by decide +kernel
theorem dX6_succeeds_123 : decode cX6_succeeds 123 = .ok (.iconst 1, 1) := by decide +kernel
theorem dX6_succeeds_124 : decode cX6_succeeds 124 = .ok (.goto 4, 3) := by decide +kernel
theorem dX6_succeeds_127 : decode cX6_succeeds 127 = .ok (.iconst 0, 1) := by decide +kernel
theorem dX6_succeeds_128 : decode cX6_succeeds 128 = .ok (.ireturn, 1) := by decide +kernel
theorem dX6_succeeds_129 : decode cX6_succeeds 129 = .ok (.aload_n 0, 1) := by decide +kernel
theorem dX6_succeeds_130 : decode cX6_succeeds 130 = .ok (.iload_n 2, 1) := by decide +kernel
theorem dX6_succeeds_131 : decode cX6_succeeds 131 = .ok (.iload_n 3, 1) := by decide +kernel
theorem dX6_succeeds_132 : decode cX6_succeeds 132 = .ok (.iload 4, 2) := by decide +kernel
theorem dX6_succeeds_134 : decode cX6_succeeds 134 = .ok (.iload 5, 2) := by decide +kernel
theorem dX6_succeeds_136 : decode cX6_succeeds 136 = .ok (.invokevirtual 364, 3) := by decide +kernel
theorem dX6_succeeds_139 : decode cX6_succeeds 139 = .ok (.ireturn, 1) := by decide +kernel
theorem dX6_succeeds_140 : decode cX6_succeeds 140 = .ok (.iload_n 2, 1) := by decide +kernel
theorem dX6_succeeds_141 : decode cX6_succeeds 141 = .ok (.ifCond .ne 25, 3) := by decide +kernel
theorem dX6_succeeds_144 : decode cX6_succeeds 144 = .ok (.iload_n 3, 1) := by decide +kernel
theorem dX6_succeeds_145 : decode cX6_succeeds 145 = .ok (.ifCond .ne 21, 3) := by decide +kernel
theorem dX6_succeeds_148 : decode cX6_succeeds 148 = .ok (.iload 4, 2) := by decide +kernel
theorem dX6_succeeds_150 : decode cX6_succeeds 150 = .ok (.ifCond .ne 16, 3) := by decide +kernel
theorem dX6_succeeds_153 : decode cX6_succeeds 153 = .ok (.aload_n 0, 1) := by decide +kernel
theorem dX6_succeeds_154 : decode cX6_succeeds 154 = .ok (.iload 5, 2) := by decide +kernel
theorem dX6_succeeds_156 : decode cX6_succeeds 156 = .ok (.invokevirtual 367, 3) := by decide +kernel
theorem dX6_succeeds_159 : decode cX6_succeeds 159 = .ok (.ifCond .eq 7, 3) := by decide +kernel
theorem dX6_succeeds_162 : decode cX6_succeeds 162 = .ok (.iconst 1, 1) := by decide +kernel
theorem dX6_succeeds_163 : decode cX6_succeeds 163 = .ok (.goto 4, 3) := by decide +kernel
theorem dX6_succeeds_166 : decode cX6_succeeds 166 = .ok (.iconst 0, 1) := by decide +kernel
theorem dX6_succeeds_167 : decode cX6_succeeds 167 = .ok (.ireturn, 1) := by decide +kernel
theorem dX6_succeeds_168 : decode cX6_succeeds 168 = .ok (.iload_n 2, 1) := by decide +kernel
theorem dX6_succeeds_169 : decode cX6_succeeds 169 = .ok (.ifCond .ne 23, 3) := by decide +kernel
theorem dX6_succeeds_172 : decode cX6_succeeds 172 = .ok (.iload_n 3, 1) := by decide +kernel
theorem dX6_succeeds_173 : decode cX6_succeeds 173 = .ok (.ifCond .ne 19, 3) := by decide +kernel
theorem dX6_succeeds_176 : decode cX6_succeeds 176 = .ok (.iload 6, 2) := by decide +kernel
theorem dX6_succeeds_178 : decode cX6_succeeds 178 = .ok (.ifCond .ne 14, 3) := by decide +kernel
theorem dX6_succeeds_181 : decode cX6_succeeds 181 = .ok (.aload_n 0, 1) := by decide +kernel
theorem dX6_succeeds_182 : decode cX6_succeeds 182 = .ok (.invokevirtual 370, 3) := by decide +kernel
theorem dX6_succeeds_185 : decode cX6_succeeds 185 = .ok (.ifCond .eq 7, 3) := by decide +kernel
theorem dX6_succeeds_188 : decode cX6_succeeds 188 = .ok (.iconst 1, 1) := by decide +kernel
theorem dX6_succeeds_189 : decode cX6_succeeds 189 = .ok (.goto 4, 3) := by decide +kernel
theorem dX6_succeeds_192 : decode cX6_succeeds 192 = .ok (.iconst 0, 1) := by decide +kernel
theorem dX6_succeeds_193 : decode cX6_succeeds 193 = .ok (.ireturn, 1) := by decide +kernel
theorem dX6_succeeds_194 : decode cX6_succeeds 194 = .ok (.iload_n 2, 1) := by decide +kernel
theorem dX6_succeeds_195 : decode cX6_succeeds 195 = .ok (.invokestatic 313, 3) := by decide +kernel
theorem dX6_succeeds_198 : decode cX6_succeeds 198 = .ok (.ifCond .eq 35, 3) := by decide +kernel
theorem dX6_succeeds_201 : decode cX6_succeeds 201 = .ok (.iload_n 3, 1) := by decide +kernel
theorem dX6_succeeds_202 : decode cX6_succeeds 202 = .ok (.ifCond .ne 31, 3) := by decide +kernel
theorem dX6_succeeds_205 : decode cX6_succeeds 205 = .ok (.aload_n 0, 1) := by decide +kernel
theorem dX6_succeeds_206 : decode cX6_succeeds 206 = .ok (.getfield 59, 3) := by decide +kernel
theorem dX6_succeeds_209 : decode cX6_succeeds 209 = .ok (.aload_n 0, 1) := by decide +kernel
theorem dX6_succeeds_210 : decode cX6_succeeds 210 = .ok (.getfield 36, 3) := by decide +kernel
theorem dX6_succeeds_213 : decode cX6_succeeds 213 = .ok (.iload_n 2, 1) := by decide +kernel
theorem dX6_succeeds_214 : decode cX6_succeeds 214 = .ok (.aload_n 0, 1) := by decide +kernel
theorem dX6_succeeds_215 : decode cX6_succeeds 215 = .ok (.getfield 36, 3) := by decide +kernel
theorem dX6_succeeds_218 : decode cX6_succeeds 218 = .ok (.getfield 121, 3) := by decide +kernel
theorem dX6_succeeds_221 : decode cX6_succeeds 221 = .ok (.invokevirtual 260, 3) := by decide +kernel
theorem dX6_succeeds_224 : decode cX6_succeeds 224 = .ok (.iload 6, 2) := by decide +kernel
theorem dX6_succeeds_226 : decode cX6_succeeds 226 = .ok (.if_icmp .lt 7, 3) := by decide +kernel
theorem dX6_succeeds_229 : decode cX6_succeeds 229 = .ok (.iconst 1, 1) := by decide +kernel
theorem dX6_succeeds_230 : decode cX6_succeeds 230 = .ok (.goto 4, 3) := by decide +kernel
theorem dX6_succeeds_233 : decode cX6_succeeds 233 = .ok (.iconst 0, 1) := by decide +kernel
theorem dX6_succeeds_234 : decode cX6_succeeds 234 = .ok (.ireturn, 1) := by decide +kernel
theorem dX6_succeeds_235 : decode cX6_succeeds 235 = .ok (.iload_n 2, 1) := by decide +kernel
theorem dX6_succeeds_236 : decode cX6_succeeds 236 = .ok (.ifCond .ne 23, 3) := by decide +kernel
theorem dX6_succeeds_239 : decode cX6_succeeds 239 = .ok (.iload_n 3, 1) := by decide +kernel
theorem dX6_succeeds_240 : decode cX6_succeeds 240 = .ok (.ifCond .ne 19, 3) := by decide +kernel
theorem dX6_succeeds_243 : decode cX6_succeeds 243 = .ok (.aload_n 0, 1) := by decide +kernel
theorem dX6_succeeds_244 : decode cX6_succeeds 244 = .ok (.getfield 36, 3) := by decide +kernel
theorem dX6_succeeds_247 : decode cX6_succeeds 247 = .ok (.invokevirtual 112, 3) := by decide +kernel
theorem dX6_succeeds_250 : decode cX6_succeeds 250 = .ok (.iload 6, 2) := by decide +kernel
theorem dX6_succeeds_252 : decode cX6_succeeds 252 = .ok (.if_icmp .gt 7, 3) := by decide +kernel
theorem dX6_succeeds_255 : decode cX6_succeeds 255 = .ok (.iconst 1, 1) := by decide +kernel
theorem dX6_succeeds_256 : decode cX6_succeeds 256 = .ok (.goto 4, 3) := by decide +kernel
theorem dX6_succeeds_259 : decode cX6_succeeds 259 = .ok (.iconst 0, 1) := by decide +kernel
theorem dX6_succeeds_260 : decode cX6_succeeds 260 = .ok (.ireturn, 1) := by decide +kernel
theorem dX6_succeeds_261 : decode cX6_succeeds 261 = .ok (.iload_n 2, 1) := by decide +kernel
theorem dX6_succeeds_262 : decode cX6_succeeds 262 = .ok (.invokestatic 313, 3) := by decide +kernel
theorem dX6_succeeds_265 : decode cX6_succeeds 265 = .ok (.ifCond .eq 43, 3) := by decide +kernel
theorem dX6_succeeds_268 : decode cX6_succeeds 268 = .ok (.aload_n 0, 1) := by decide +kernel
theorem dX6_succeeds_269 : decode cX6_succeeds 269 = .ok (.getfield 59, 3) := by decide +kernel
theorem dX6_succeeds_272 : decode cX6_succeeds 272 = .ok (.aload_n 0, 1) := by decide +kernel
theorem dX6_succeeds_273 : decode cX6_succeeds 273 = .ok (.getfield 36, 3) := by decide +kernel
theorem dX6_succeeds_276 : decode cX6_succeeds 276 = .ok (.iload_n 2, 1) := by decide +kernel
theorem dX6_succeeds_277 : decode cX6_succeeds 277 = .ok (.aload_n 0, 1) := by decide +kernel
theorem dX6_succeeds_278 : decode cX6_succeeds 278 = .ok (.getfield 36, 3) := by decide +kernel
theorem dX6_succeeds_281 : decode cX6_succeeds 281 = .ok (.getfield 121, 3) := by decide +kernel
theorem dX6_succeeds_284 : decode cX6_succeeds 284 = .ok (.invokevirtual 260, 3) := by decide +kernel
theorem dX6_succeeds_287 : decode cX6_succeeds 287 = .ok (.iload_n 3, 1) := by decide +kernel
theorem dX6_succeeds_288 : decode cX6_succeeds 288 = .ok (.if_icmp .le 20, 3) := by decide +kernel
theorem dX6_succeeds_291 : decode cX6_succeeds 291 = .ok (.aload_n 0, 1) := by decide +kernel
theorem dX6_succeeds_292 : decode cX6_succeeds 292 = .ok (.getfield 59, 3) := by decide +kernel
theorem dX6_succeeds_295 : decode cX6_succeeds 295 = .ok (.iload_n 3, 1) := by decide +kernel
theorem dX6_succeeds_296 : decode cX6_succeeds 296 = .ok (.invokevirtual 190, 3) := by decide +kernel
theorem dX6_succeeds_299 : decode cX6_succeeds 299 = .ok (.iload 6, 2) := by decide +kernel
theorem dX6_succeeds_301 : decode cX6_succeeds 301 = .ok (.if_icmp .ne 7, 3) := by decide +kernel
theorem dX6_succeeds_304 : decode cX6_succeeds 304 = .ok (.iconst 1, 1) := by decide +kernel
theorem dX6_succeeds_305 : decode cX6_succeeds 305 = .ok (.goto 4, 3) := by decide +kernel
theorem dX6_succeeds_308 : decode cX6_succeeds 308 = .ok (.iconst 0, 1) := by decide +kernel
theorem dX6_succeeds_309 : decode cX6_succeeds 309 = .ok (.ireturn, 1) := by decide +kernel
theorem dX6_succeeds_310 : decode cX6_succeeds 310 = .ok (.aload_n 0, 1) := by decide +kernel
theorem dX6_succeeds_311 : decode cX6_succeeds 311 = .ok (.getfield 36, 3) := by decide +kernel
theorem dX6_succeeds_314 : decode cX6_succeeds 314 = .ok (.iload_n 2, 1) := by decide +kernel
theorem dX6_succeeds_315 : decode cX6_succeeds 315 = .ok (.iload_n 3, 1) := by decide +kernel
theorem dX6_succeeds_316 : decode cX6_succeeds 316 = .ok (.iload 4, 2) := by decide +kernel
theorem dX6_succeeds_318 : decode cX6_succeeds 318 = .ok (.invokevirtual 328, 3) := by decide +kernel
theorem dX6_succeeds_321 : decode cX6_succeeds 321 = .ok (.ifCond .eq 32, 3) := by decide +kernel
theorem dX6_succeeds_324 : decode cX6_succeeds 324 = .ok (.iload 5, 2) := by decide +kernel
theorem dX6_succeeds_326 : decode cX6_succeeds 326 = .ok (.iconst 2, 1) := by decide +kernel
theorem dX6_succeeds_327 : decode cX6_succeeds 327 = .ok (.if_icmp .gt 26, 3) := by decide +kernel
theorem dX6_succeeds_330 : decode cX6_succeeds 330 = .ok (.aload_n 0, 1) := by decide +kernel
theorem dX6_succeeds_331 : decode cX6_succeeds 331 = .ok (.getfield 36, 3) := by decide +kernel
theorem dX6_succeeds_334 : decode cX6_succeeds 334 = .ok (.iload_n 2, 1) := by decide +kernel
theorem dX6_succeeds_335 : decode cX6_succeeds 335 = .ok (.iload_n 3, 1) := by decide +kernel
theorem dX6_succeeds_336 : decode cX6_succeeds 336 = .ok (.iload 4, 2) := by decide +kernel
theorem dX6_succeeds_338 : decode cX6_succeeds 338 = .ok (.invokevirtual 178, 3) := by decide +kernel
theorem dX6_succeeds_341 : decode cX6_succeeds 341 = .ok (.iload 5, 2) := by decide +kernel
theorem dX6_succeeds_343 : decode cX6_succeeds 343 = .ok (.invokestatic 373, 3) := by decide +kernel
theorem dX6_succeeds_346 : decode cX6_succeeds 346 = .ok (.if_icmp .ne 7, 3) := by decide +kernel
theorem dX6_succeeds_349 : decode cX6_succeeds 349 = .ok (.iconst 1, 1) := by decide +kernel
theorem dX6_succeeds_350 : decode cX6_succeeds 350 = .ok (.goto 4, 3) := by decide +kernel
theorem dX6_succeeds_353 : decode cX6_succeeds 353 = .ok (.iconst 0, 1) := by decide +kernel
theorem dX6_succeeds_354 : decode cX6_succeeds 354 = .ok (.ireturn, 1) := by decide +kernel
theorem dX6_succeeds_355 : decode cX6_succeeds 355 = .ok (.iconst 0, 1) := by decide +kernel
theorem dX6_succeeds_356 : decode cX6_succeeds 356 = .ok (.ireturn, 1) := by decide +kernel
def FX6_succeeds (T : zT) (a0 : Nat) (p0 : Int32) (h : zH) : Option (Int32 × zH) := (zo h a0 6).bind fun _ => (zdivI p0 1000).bind fun x1 => (zremI x1 10).bind fun x2 => (zdivI p0 100).bind fun x3 => (zremI x3 10).bind fun x4 => (zdivI p0 10).bind fun x5 => (zremI x5 10).bind fun x6 => (zremI p0 10).bind fun x7 => (zdivI p0 10000).bind fun x8 => if x8 = 1 then (zb2 (FX6_tryDecide T a0 x2 x4 x6 x7 h) fun x10 h11 => if x10 = 0 ∨ x10 = 1 then some (x10, h11) else none) else (if x8 = 2 then (zJ (fun (x12 : Int32) (h13 : zH) => if x12 = 0 ∨ x12 = 1 then some (x12, h13) else none) (fun J14 => zJ (fun (h15 : zH) => J14 0 h15) (fun J16 => if x7 = 0 then (zb2 (FX6_tryErase T a0 x2 x4 x6 h) fun x18 h19 => if x18 = 0 then (J16 h19) else (J14 1 h19)) else (J16 h)))) else (if x8 = 3 then (zb2 (FX6_trySetLetter T a0 x2 x4 x6 x7 h) fun x21 h22 => if x21 = 0 ∨ x21 = 1 then some (x21, h22) else none) else (if x8 = 4 then (zJ (fun (x23 : Int32) (h24 : zH) => if x23 = 0 ∨ x23 = 1 then some (x23, h24) else none) (fun J25 => zJ (fun (h26 : zH) => J25 0 h26) (fun J27 => if x2 = 0 then (if x4 = 0 then (if x6 = 0 then (zb2 (FX6_trySetMargin T a0 x7 h) fun x29 h30 => if x29 = 0 then (J27 h30) else (J25 1 h30)) else (J27 h)) else (J27 h)) else (J27 h)))) else (if x8 = 5 then (zJ (fun (x31 : Int32) (h32 : zH) => if x31 = 0 ∨ x31 = 1 then some (x31, h32) else none) (fun J33 => zJ (fun (h34 : zH) => J33 0 h34) (fun J35 => if x2 = 0 then (if x4 = 0 then (if ((10 * x6) + x7) = 0 then (zb2 (FX6_tryTurn T a0 h) fun x37 h38 => if x37 = 0 then (J35 h38) else (J33 1 h38)) else (J35 h)) else (J35 h)) else (J35 h)))) else (if x8 = 6 then (zJ (fun (x39 : Int32) (h40 : zH) => if x39 = 0 ∨ x39 = 1 then some (x39, h40) else none) (fun J41 => zJ (fun (h42 : zH) => J41 0 h42) (fun J43 => (FX6_isLetter T x2 h).bind fun x45 => if x45 = 0 then (J43 h) else (if x4 = 0 then ((zgr h a0 6 8).bind fun x46 => (zgr h a0 6 4).bind fun x47 => (zgr h a0 6 4).bind fun x48 => (zgi h x48 3 3).bind fun x49 => zb2 (FX2_readLetter T x46 x47 x2 x49 h) fun x51 h52 => if x51 < ((10 * x6) + x7) then (J43 h52) else (J41 1 h52)) else (J43 h))))) else (if x8 = 7 then (zJ (fun (x53 : Int32) => if x53 = 0 ∨ x53 = 1 then some (x53, h) else none) (fun J54 => zJ (fun (u9 : Unit) => J54 0) (fun J55 => if x2 = 0 then (if x4 = 0 then ((zgr h a0 6 4).bind fun x56 => (FX3_countDoubtful T x56 h).bind fun x58 => if ((10 * x6) + x7) < x58 then (J55 ()) else (J54 1)) else (J55 ())) else (J55 ())))) else (if x8 = 8 then (zJ (fun (x59 : Int32) (h60 : zH) => if x59 = 0 ∨ x59 = 1 then some (x59, h60) else none) (fun J61 => zJ (fun (h62 : zH) => J61 0 h62) (fun J63 => (FX6_isLetter T x2 h).bind fun x65 => if x65 = 0 then (J63 h) else ((zgr h a0 6 8).bind fun x66 => (zgr h a0 6 4).bind fun x67 => (zgr h a0 6 4).bind fun x68 => (zgi h x68 3 3).bind fun x69 => zb2 (FX2_readLetter T x66 x67 x2 x69 h) fun x71 h72 => if x71 ≤ x4 then (J63 h72) else ((zgr h72 a0 6 8).bind fun x73 => (FX2_lengthOf T x73 x4 h72).bind fun x75 => if x75 = ((10 * x6) + x7) then (J61 1 h72) else (J63 h72)))))) else (if x8 = 9 then (zJ (fun (x76 : Int32) => if x76 = 0 ∨ x76 = 1 then some (x76, h) else none) (fun J77 => zJ (fun (u9 : Unit) => J77 0) (fun J78 => (zgr h a0 6 4).bind fun x79 => (FX3_hasMark T x79 x2 x4 x6 h).bind fun x81 => if x81 = 0 then (J78 ()) else (if 2 < x7 then (J78 ()) else ((zgr h a0 6 4).bind fun x82 => (FX3_ownerOf T x82 x2 x4 x6 h).bind fun x84 => (FX6_letterOrNone T x7 h).bind fun x86 => if x84 = x86 then (J77 1) else (J78 ())))))) else (some (0, h))))))))))
set_option maxHeartbeats 4000000 in
set_option maxRecDepth 100000 in
theorem BX6_succeeds {X : zX} (C : zC X cX6_succeeds 7 RX6 "succeeds" (some .boolean) 5 127) {hi : Nat} {h : zH} {a0 : Nat} {p0 : Int32} {r9 : (Int32 × zH)} (hf : FX6_succeeds (xT X) a0 p0 h = some r9) : zW X 7 (zZ X false (some (.int r9.1), hi, r9.2)) 0 0 false hi h 0 [(0, .ref a0), (1, .int p0)] [] := by
  unfold FX6_succeeds at hf
  obtain ⟨_, _, hf⟩ := zbind hf
  refine z_iload_n C dX6_succeeds_0 1 rfl rfl ?_
  refine z_sipush C (v := 1000) dX6_succeeds_1 (by decide) ?_
  refine z_idiv C dX6_succeeds_4 hf (fun x1 _ hf => ?_)
  refine z_bipush C (v := 10) dX6_succeeds_5 (by decide) ?_
  refine z_irem C dX6_succeeds_7 hf (fun x2 _ hf => ?_)
  refine z_istore_n C dX6_succeeds_8 rfl (by decide) (lv' := [(2, .int x2), (0, .ref a0), (1, .int p0)]) rfl ?_
  refine z_iload_n C dX6_succeeds_9 2 rfl rfl ?_
  refine z_bipush C (v := 100) dX6_succeeds_10 (by decide) ?_
  refine z_idiv C dX6_succeeds_12 hf (fun x3 _ hf => ?_)
  refine z_bipush C (v := 10) dX6_succeeds_13 (by decide) ?_
  refine z_irem C dX6_succeeds_15 hf (fun x4 _ hf => ?_)
  refine z_istore_n C dX6_succeeds_16 rfl (by decide) (lv' := [(3, .int x4), (2, .int x2), (0, .ref a0), (1, .int p0)]) rfl ?_
  refine z_iload_n C dX6_succeeds_17 3 rfl rfl ?_
  refine z_bipush C (v := 10) dX6_succeeds_18 (by decide) ?_
  refine z_idiv C dX6_succeeds_20 hf (fun x5 _ hf => ?_)
  refine z_bipush C (v := 10) dX6_succeeds_21 (by decide) ?_
  refine z_irem C dX6_succeeds_23 hf (fun x6 _ hf => ?_)
  refine z_istore C dX6_succeeds_24 (by decide) (lv' := [(4, .int x6), (3, .int x4), (2, .int x2), (0, .ref a0), (1, .int p0)]) rfl ?_
  refine z_iload_n C dX6_succeeds_26 4 rfl rfl ?_
  refine z_bipush C (v := 10) dX6_succeeds_27 (by decide) ?_
  refine z_irem C dX6_succeeds_29 hf (fun x7 _ hf => ?_)
  refine z_istore C dX6_succeeds_30 (by decide) (lv' := [(5, .int x7), (4, .int x6), (3, .int x4), (2, .int x2), (0, .ref a0), (1, .int p0)]) rfl ?_
  refine z_bipush C (v := 10) dX6_succeeds_32 (by decide) ?_
  refine z_iload C dX6_succeeds_34 1 rfl ?_
  refine z_imul C dX6_succeeds_36 ?_
  refine z_iload C dX6_succeeds_37 0 rfl ?_
  refine z_iadd C dX6_succeeds_39 ?_
  refine z_istore C dX6_succeeds_40 (by decide) (lv' := [(6, .int ((10 * x6) + x7)), (5, .int x7), (4, .int x6), (3, .int x4), (2, .int x2), (0, .ref a0), (1, .int p0)]) rfl ?_
  refine z_iload_n C dX6_succeeds_42 6 rfl rfl ?_
  refine z_sipush C (v := 10000) dX6_succeeds_43 (by decide) ?_
  refine z_idiv C dX6_succeeds_46 hf (fun x8 _ hf => ?_)
  refine z_ite hf (fun c hf => ?_) (fun c1 hf => ?_)
  · refine z_tswIn (k := 1) (off := 49) (tgt := 96) C c dX6_succeeds_47 (by decide) (by decide) ?_
    refine z_aload_n C dX6_succeeds_96 5 rfl rfl ?_
    refine z_iload_n C dX6_succeeds_97 4 rfl rfl ?_
    refine z_iload_n C dX6_succeeds_98 3 rfl rfl ?_
    refine z_iload C dX6_succeeds_99 2 rfl ?_
    refine z_iload C dX6_succeeds_101 1 rfl ?_
    obtain ⟨x10, h11, g9, hf⟩ := zbind2 hf
    refine z_callV (kc' := 0) (ks' := 0) C (MX6_tryDecide (xl X) (xD X) (xT X) (xlo X) false hi g9) (OX6_tryDecide g9) rfl cw_X6_358 yv_X6_tryDecide dX6_succeeds_103 rfl (by decide) ⟨rfl, rfl⟩ (Nat.le_of_ble_eq_true rfl) (st := []) rfl ?_
    refine z_ite hf (fun c hf => ?_) (fun c hf => nomatch hf)
    exact z_zreturn C dX6_succeeds_106 c (by cases hf; rfl)
  · refine z_ite hf (fun c hf => ?_) (fun c2 hf => ?_)
    · refine z_tswIn (k := 2) (off := 60) (tgt := 107) C c dX6_succeeds_47 (by decide) (by decide) ?_
      refine z_join (P := fun J => ∀ (x12 : Int32) (h13 : zH), J x12 h13 = some r9 → zW X 7 (zZ X false (some (.int r9.1), hi, r9.2)) 0 0 false hi h13 128 [] [.int x12]) hf ?_ ?_
      · intro x12 h13 hf
        refine z_ite hf (fun c hf => ?_) (fun c hf => nomatch hf)
        exact z_zreturn C dX6_succeeds_128 c (by cases hf; rfl)
      · intro J14 kJ14 hf
        refine z_join (P := fun J => ∀ (h15 : zH), J h15 = some r9 → zW X 7 (zZ X false (some (.int r9.1), hi, r9.2)) 0 0 false hi h15 127 [] []) hf ?_ ?_
        · intro h15 hf
          refine z_iconst C (v := 0) dX6_succeeds_127 (by decide) ?_
          exact kJ14 _ _ hf
        · intro J16 kJ16 hf
          refine z_iload C dX6_succeeds_107 1 rfl ?_
          refine z_if_ne (tgt := 127) C dX6_succeeds_109 (by decide) hf (fun hf => ?_) (fun hf => ?_)
          · refine z_sub [] rfl ?_
            exact kJ16 _ hf
          · refine z_aload_n C dX6_succeeds_112 5 rfl rfl ?_
            refine z_iload_n C dX6_succeeds_113 4 rfl rfl ?_
            refine z_iload_n C dX6_succeeds_114 3 rfl rfl ?_
            refine z_iload C dX6_succeeds_115 2 rfl ?_
            obtain ⟨x18, h19, g17, hf⟩ := zbind2 hf
            refine z_callV (kc' := 0) (ks' := 0) C (MX6_tryErase (xl X) (xD X) (xT X) (xlo X) false hi g17) (OX6_tryErase g17) rfl cw_X6_361 yv_X6_tryErase dX6_succeeds_117 rfl (by decide) ⟨rfl, rfl⟩ (Nat.le_of_ble_eq_true rfl) (st := []) rfl ?_
            refine z_if_eq (tgt := 127) C dX6_succeeds_120 (by decide) hf (fun hf => ?_) (fun hf => ?_)
            · refine z_sub [] rfl ?_
              exact kJ16 _ hf
            · refine z_iconst C (v := 1) dX6_succeeds_123 (by decide) ?_
              refine z_goto (tgt := 128) C dX6_succeeds_124 (by decide) ?_
              refine z_sub [] rfl ?_
              exact kJ14 _ _ hf
    · refine z_ite hf (fun c hf => ?_) (fun c3 hf => ?_)
      · refine z_tswIn (k := 3) (off := 82) (tgt := 129) C c dX6_succeeds_47 (by decide) (by decide) ?_
        refine z_aload_n C dX6_succeeds_129 5 rfl rfl ?_
        refine z_iload_n C dX6_succeeds_130 4 rfl rfl ?_
        refine z_iload_n C dX6_succeeds_131 3 rfl rfl ?_
        refine z_iload C dX6_succeeds_132 2 rfl ?_
        refine z_iload C dX6_succeeds_134 1 rfl ?_
        obtain ⟨x21, h22, g20, hf⟩ := zbind2 hf
        refine z_callV (kc' := 0) (ks' := 0) C (MX6_trySetLetter (xl X) (xD X) (xT X) (xlo X) false hi g20) (OX6_trySetLetter g20) rfl cw_X6_364 yv_X6_trySetLetter dX6_succeeds_136 rfl (by decide) ⟨rfl, rfl⟩ (Nat.le_of_ble_eq_true rfl) (st := []) rfl ?_
        refine z_ite hf (fun c hf => ?_) (fun c hf => nomatch hf)
        exact z_zreturn C dX6_succeeds_139 c (by cases hf; rfl)
      · refine z_ite hf (fun c hf => ?_) (fun c4 hf => ?_)
        · refine z_tswIn (k := 4) (off := 93) (tgt := 140) C c dX6_succeeds_47 (by decide) (by decide) ?_
          refine z_join (P := fun J => ∀ (x23 : Int32) (h24 : zH), J x23 h24 = some r9 → zW X 7 (zZ X false (some (.int r9.1), hi, r9.2)) 0 0 false hi h24 167 [] [.int x23]) hf ?_ ?_
          · intro x23 h24 hf
            refine z_ite hf (fun c hf => ?_) (fun c hf => nomatch hf)
            exact z_zreturn C dX6_succeeds_167 c (by cases hf; rfl)
          · intro J25 kJ25 hf
            refine z_join (P := fun J => ∀ (h26 : zH), J h26 = some r9 → zW X 7 (zZ X false (some (.int r9.1), hi, r9.2)) 0 0 false hi h26 166 [] []) hf ?_ ?_
            · intro h26 hf
              refine z_iconst C (v := 0) dX6_succeeds_166 (by decide) ?_
              exact kJ25 _ _ hf
            · intro J27 kJ27 hf
              refine z_iload_n C dX6_succeeds_140 4 rfl rfl ?_
              refine z_if_ne (tgt := 166) C dX6_succeeds_141 (by decide) hf (fun hf => ?_) (fun hf => ?_)
              · refine z_sub [] rfl ?_
                exact kJ27 _ hf
              · refine z_iload_n C dX6_succeeds_144 3 rfl rfl ?_
                refine z_if_ne (tgt := 166) C dX6_succeeds_145 (by decide) hf (fun hf => ?_) (fun hf => ?_)
                · refine z_sub [] rfl ?_
                  exact kJ27 _ hf
                · refine z_iload C dX6_succeeds_148 2 rfl ?_
                  refine z_if_ne (tgt := 166) C dX6_succeeds_150 (by decide) hf (fun hf => ?_) (fun hf => ?_)
                  · refine z_sub [] rfl ?_
                    exact kJ27 _ hf
                  · refine z_aload_n C dX6_succeeds_153 5 rfl rfl ?_
                    refine z_iload C dX6_succeeds_154 1 rfl ?_
                    obtain ⟨x29, h30, g28, hf⟩ := zbind2 hf
                    refine z_callV (kc' := 0) (ks' := 0) C (MX6_trySetMargin (xl X) (xD X) (xT X) (xlo X) false hi g28) (OX6_trySetMargin g28) rfl cw_X6_367 yv_X6_trySetMargin dX6_succeeds_156 rfl (by decide) ⟨rfl, rfl⟩ (Nat.le_of_ble_eq_true rfl) (st := []) rfl ?_
                    refine z_if_eq (tgt := 166) C dX6_succeeds_159 (by decide) hf (fun hf => ?_) (fun hf => ?_)
                    · refine z_sub [] rfl ?_
                      exact kJ27 _ hf
                    · refine z_iconst C (v := 1) dX6_succeeds_162 (by decide) ?_
                      refine z_goto (tgt := 167) C dX6_succeeds_163 (by decide) ?_
                      refine z_sub [] rfl ?_
                      exact kJ25 _ _ hf
        · refine z_ite hf (fun c hf => ?_) (fun c5 hf => ?_)
          · refine z_tswIn (k := 5) (off := 121) (tgt := 168) C c dX6_succeeds_47 (by decide) (by decide) ?_
            refine z_join (P := fun J => ∀ (x31 : Int32) (h32 : zH), J x31 h32 = some r9 → zW X 7 (zZ X false (some (.int r9.1), hi, r9.2)) 0 0 false hi h32 193 [] [.int x31]) hf ?_ ?_
            · intro x31 h32 hf
              refine z_ite hf (fun c hf => ?_) (fun c hf => nomatch hf)
              exact z_zreturn C dX6_succeeds_193 c (by cases hf; rfl)
            · intro J33 kJ33 hf
              refine z_join (P := fun J => ∀ (h34 : zH), J h34 = some r9 → zW X 7 (zZ X false (some (.int r9.1), hi, r9.2)) 0 0 false hi h34 192 [] []) hf ?_ ?_
              · intro h34 hf
                refine z_iconst C (v := 0) dX6_succeeds_192 (by decide) ?_
                exact kJ33 _ _ hf
              · intro J35 kJ35 hf
                refine z_iload_n C dX6_succeeds_168 4 rfl rfl ?_
                refine z_if_ne (tgt := 192) C dX6_succeeds_169 (by decide) hf (fun hf => ?_) (fun hf => ?_)
                · refine z_sub [] rfl ?_
                  exact kJ35 _ hf
                · refine z_iload_n C dX6_succeeds_172 3 rfl rfl ?_
                  refine z_if_ne (tgt := 192) C dX6_succeeds_173 (by decide) hf (fun hf => ?_) (fun hf => ?_)
                  · refine z_sub [] rfl ?_
                    exact kJ35 _ hf
                  · refine z_iload C dX6_succeeds_176 0 rfl ?_
                    refine z_if_ne (tgt := 192) C dX6_succeeds_178 (by decide) hf (fun hf => ?_) (fun hf => ?_)
                    · refine z_sub [] rfl ?_
                      exact kJ35 _ hf
                    · refine z_aload_n C dX6_succeeds_181 5 rfl rfl ?_
                      obtain ⟨x37, h38, g36, hf⟩ := zbind2 hf
                      refine z_callV (kc' := 0) (ks' := 0) C (MX6_tryTurn (xl X) (xD X) (xT X) (xlo X) hi g36) (OX6_tryTurn g36) rfl cw_X6_370 yv_X6_tryTurn dX6_succeeds_182 rfl (by decide) ⟨rfl, rfl⟩ (Nat.le_of_ble_eq_true rfl) (st := []) rfl ?_
                      refine z_if_eq (tgt := 192) C dX6_succeeds_185 (by decide) hf (fun hf => ?_) (fun hf => ?_)
                      · refine z_sub [] rfl ?_
                        exact kJ35 _ hf
                      · refine z_iconst C (v := 1) dX6_succeeds_188 (by decide) ?_
                        refine z_goto (tgt := 193) C dX6_succeeds_189 (by decide) ?_
                        refine z_sub [] rfl ?_
                        exact kJ33 _ _ hf
          · refine z_ite hf (fun c hf => ?_) (fun c6 hf => ?_)
            · refine z_tswIn (k := 6) (off := 147) (tgt := 194) C c dX6_succeeds_47 (by decide) (by decide) ?_
              refine z_join (P := fun J => ∀ (x39 : Int32) (h40 : zH), J x39 h40 = some r9 → zW X 7 (zZ X false (some (.int r9.1), hi, r9.2)) 0 0 false hi h40 234 [] [.int x39]) hf ?_ ?_
              · intro x39 h40 hf
                refine z_ite hf (fun c hf => ?_) (fun c hf => nomatch hf)
                exact z_zreturn C dX6_succeeds_234 c (by cases hf; rfl)
              · intro J41 kJ41 hf
                refine z_join (P := fun J => ∀ (h42 : zH), J h42 = some r9 → zW X 7 (zZ X false (some (.int r9.1), hi, r9.2)) 0 0 false hi h42 233 [] []) hf ?_ ?_
                · intro h42 hf
                  refine z_iconst C (v := 0) dX6_succeeds_233 (by decide) ?_
                  exact kJ41 _ _ hf
                · intro J43 kJ43 hf
                  refine z_iload_n C dX6_succeeds_194 4 rfl rfl ?_
                  obtain ⟨x45, g44, hf⟩ := zbind hf
                  refine z_callS (kc' := 0) (ks' := 0) C (MX6_isLetter (xl X) (xD X) (xT X) (xlo X) false hi g44) cw_X6_313 ys_X6_isLetter dX6_succeeds_195 rfl (by decide) ⟨rfl, rfl⟩ (Nat.le_of_ble_eq_true rfl) (st := []) rfl ?_
                  refine z_if_eq (tgt := 233) C dX6_succeeds_198 (by decide) hf (fun hf => ?_) (fun hf => ?_)
                  · refine z_sub [] rfl ?_
                    exact kJ43 _ hf
                  · refine z_iload_n C dX6_succeeds_201 3 rfl rfl ?_
                    refine z_if_ne (tgt := 233) C dX6_succeeds_202 (by decide) hf (fun hf => ?_) (fun hf => ?_)
                    · refine z_sub [] rfl ?_
                      exact kJ43 _ hf
                    · refine z_aload_n C dX6_succeeds_205 5 rfl rfl ?_
                      refine z_getR C fl_X6_59 dX6_succeeds_206 hf (fun x46 hf => ?_)
                      refine z_aload_n C dX6_succeeds_209 5 rfl rfl ?_
                      refine z_getR C fl_X6_36 dX6_succeeds_210 hf (fun x47 hf => ?_)
                      refine z_iload_n C dX6_succeeds_213 4 rfl rfl ?_
                      refine z_aload_n C dX6_succeeds_214 5 rfl rfl ?_
                      refine z_getR C fl_X6_36 dX6_succeeds_215 hf (fun x48 hf => ?_)
                      refine z_getI C fl_X6_121 dX6_succeeds_218 hf (fun x49 hf => ?_)
                      obtain ⟨x51, h52, g50, hf⟩ := zbind2 hf
                      refine z_callV (kc' := 0) (ks' := 0) C (MX2_readLetter (xl X) (xD X) (xT X) (xlo X) false hi g50) (OX2_readLetter g50) rfl cw_X6_260 yv_X2_readLetter dX6_succeeds_221 rfl (by decide) ⟨rfl, rfl⟩ (Nat.le_of_ble_eq_true rfl) (st := []) rfl ?_
                      refine z_iload C dX6_succeeds_224 0 rfl ?_
                      refine z_icmp_lt (tgt := 233) C dX6_succeeds_226 (by decide) hf (fun hf => ?_) (fun hf => ?_)
                      · refine z_sub [] rfl ?_
                        exact kJ43 _ hf
                      · refine z_iconst C (v := 1) dX6_succeeds_229 (by decide) ?_
                        refine z_goto (tgt := 234) C dX6_succeeds_230 (by decide) ?_
                        refine z_sub [] rfl ?_
                        exact kJ41 _ _ hf
            · refine z_ite hf (fun c hf => ?_) (fun c7 hf => ?_)
              · refine z_tswIn (k := 7) (off := 188) (tgt := 235) C c dX6_succeeds_47 (by decide) (by decide) ?_
                refine z_join (P := fun J => ∀ (x53 : Int32), J x53 = some r9 → zW X 7 (zZ X false (some (.int r9.1), hi, r9.2)) 0 0 false hi h 260 [] [.int x53]) hf ?_ ?_
                · intro x53 hf
                  refine z_ite hf (fun c hf => ?_) (fun c hf => nomatch hf)
                  exact z_zreturn C dX6_succeeds_260 c (by cases hf; rfl)
                · intro J54 kJ54 hf
                  refine z_join (P := fun J => ∀ (u9 : Unit), J u9 = some r9 → zW X 7 (zZ X false (some (.int r9.1), hi, r9.2)) 0 0 false hi h 259 [] []) hf ?_ ?_
                  · intro u9 hf
                    refine z_iconst C (v := 0) dX6_succeeds_259 (by decide) ?_
                    exact kJ54 _ hf
                  · intro J55 kJ55 hf
                    refine z_iload_n C dX6_succeeds_235 4 rfl rfl ?_
                    refine z_if_ne (tgt := 259) C dX6_succeeds_236 (by decide) hf (fun hf => ?_) (fun hf => ?_)
                    · refine z_sub [] rfl ?_
                      exact kJ55 _ hf
                    · refine z_iload_n C dX6_succeeds_239 3 rfl rfl ?_
                      refine z_if_ne (tgt := 259) C dX6_succeeds_240 (by decide) hf (fun hf => ?_) (fun hf => ?_)
                      · refine z_sub [] rfl ?_
                        exact kJ55 _ hf
                      · refine z_aload_n C dX6_succeeds_243 5 rfl rfl ?_
                        refine z_getR C fl_X6_36 dX6_succeeds_244 hf (fun x56 hf => ?_)
                        obtain ⟨x58, g57, hf⟩ := zbind hf
                        refine z_callV (kc' := 0) (ks' := 0) C (MX3_countDoubtful (xl X) (xD X) (xT X) (xlo X) false hi g57) (OX3_countDoubtful g57) rfl cw_X6_112 yv_X3_countDoubtful dX6_succeeds_247 rfl (by decide) ⟨rfl, rfl⟩ (Nat.le_of_ble_eq_true rfl) (st := []) rfl ?_
                        refine z_iload C dX6_succeeds_250 0 rfl ?_
                        refine z_icmp_gt (tgt := 259) C dX6_succeeds_252 (by decide) hf (fun hf => ?_) (fun hf => ?_)
                        · refine z_sub [] rfl ?_
                          exact kJ55 _ hf
                        · refine z_iconst C (v := 1) dX6_succeeds_255 (by decide) ?_
                          refine z_goto (tgt := 260) C dX6_succeeds_256 (by decide) ?_
                          refine z_sub [] rfl ?_
                          exact kJ54 _ hf
              · refine z_ite hf (fun c hf => ?_) (fun c8 hf => ?_)
                · refine z_tswIn (k := 8) (off := 214) (tgt := 261) C c dX6_succeeds_47 (by decide) (by decide) ?_
                  refine z_join (P := fun J => ∀ (x59 : Int32) (h60 : zH), J x59 h60 = some r9 → zW X 7 (zZ X false (some (.int r9.1), hi, r9.2)) 0 0 false hi h60 309 [] [.int x59]) hf ?_ ?_
                  · intro x59 h60 hf
                    refine z_ite hf (fun c hf => ?_) (fun c hf => nomatch hf)
                    exact z_zreturn C dX6_succeeds_309 c (by cases hf; rfl)
                  · intro J61 kJ61 hf
                    refine z_join (P := fun J => ∀ (h62 : zH), J h62 = some r9 → zW X 7 (zZ X false (some (.int r9.1), hi, r9.2)) 0 0 false hi h62 308 [] []) hf ?_ ?_
                    · intro h62 hf
                      refine z_iconst C (v := 0) dX6_succeeds_308 (by decide) ?_
                      exact kJ61 _ _ hf
                    · intro J63 kJ63 hf
                      refine z_iload_n C dX6_succeeds_261 4 rfl rfl ?_
                      obtain ⟨x65, g64, hf⟩ := zbind hf
                      refine z_callS (kc' := 0) (ks' := 0) C (MX6_isLetter (xl X) (xD X) (xT X) (xlo X) false hi g64) cw_X6_313 ys_X6_isLetter dX6_succeeds_262 rfl (by decide) ⟨rfl, rfl⟩ (Nat.le_of_ble_eq_true rfl) (st := []) rfl ?_
                      refine z_if_eq (tgt := 308) C dX6_succeeds_265 (by decide) hf (fun hf => ?_) (fun hf => ?_)
                      · refine z_sub [] rfl ?_
                        exact kJ63 _ hf
                      · refine z_aload_n C dX6_succeeds_268 5 rfl rfl ?_
                        refine z_getR C fl_X6_59 dX6_succeeds_269 hf (fun x66 hf => ?_)
                        refine z_aload_n C dX6_succeeds_272 5 rfl rfl ?_
                        refine z_getR C fl_X6_36 dX6_succeeds_273 hf (fun x67 hf => ?_)
                        refine z_iload_n C dX6_succeeds_276 4 rfl rfl ?_
                        refine z_aload_n C dX6_succeeds_277 5 rfl rfl ?_
                        refine z_getR C fl_X6_36 dX6_succeeds_278 hf (fun x68 hf => ?_)
                        refine z_getI C fl_X6_121 dX6_succeeds_281 hf (fun x69 hf => ?_)
                        obtain ⟨x71, h72, g70, hf⟩ := zbind2 hf
                        refine z_callV (kc' := 0) (ks' := 0) C (MX2_readLetter (xl X) (xD X) (xT X) (xlo X) false hi g70) (OX2_readLetter g70) rfl cw_X6_260 yv_X2_readLetter dX6_succeeds_284 rfl (by decide) ⟨rfl, rfl⟩ (Nat.le_of_ble_eq_true rfl) (st := []) rfl ?_
                        refine z_iload_n C dX6_succeeds_287 3 rfl rfl ?_
                        refine z_icmp_le (tgt := 308) C dX6_succeeds_288 (by decide) hf (fun hf => ?_) (fun hf => ?_)
                        · refine z_sub [] rfl ?_
                          exact kJ63 _ hf
                        · refine z_aload_n C dX6_succeeds_291 5 rfl rfl ?_
                          refine z_getR C fl_X6_59 dX6_succeeds_292 hf (fun x73 hf => ?_)
                          refine z_iload_n C dX6_succeeds_295 3 rfl rfl ?_
                          obtain ⟨x75, g74, hf⟩ := zbind hf
                          refine z_callV (kc' := 0) (ks' := 0) C (MX2_lengthOf (xl X) (xD X) (xT X) (xlo X) false hi g74) (OX2_lengthOf g74) rfl cw_X6_190 yv_X2_lengthOf dX6_succeeds_296 rfl (by decide) ⟨rfl, rfl⟩ (Nat.le_of_ble_eq_true rfl) (st := []) rfl ?_
                          refine z_iload C dX6_succeeds_299 0 rfl ?_
                          refine z_icmp_ne (tgt := 308) C dX6_succeeds_301 (by decide) hf (fun hf => ?_) (fun hf => ?_)
                          · refine z_sub [] rfl ?_
                            exact kJ63 _ hf
                          · refine z_iconst C (v := 1) dX6_succeeds_304 (by decide) ?_
                            refine z_goto (tgt := 309) C dX6_succeeds_305 (by decide) ?_
                            refine z_sub [] rfl ?_
                            exact kJ61 _ _ hf
                · refine z_ite hf (fun c hf => ?_) (fun c9 hf => ?_)
                  · refine z_tswIn (k := 9) (off := 263) (tgt := 310) C c dX6_succeeds_47 (by decide) (by decide) ?_
                    refine z_join (P := fun J => ∀ (x76 : Int32), J x76 = some r9 → zW X 7 (zZ X false (some (.int r9.1), hi, r9.2)) 0 0 false hi h 354 [] [.int x76]) hf ?_ ?_
                    · intro x76 hf
                      refine z_ite hf (fun c hf => ?_) (fun c hf => nomatch hf)
                      exact z_zreturn C dX6_succeeds_354 c (by cases hf; rfl)
                    · intro J77 kJ77 hf
                      refine z_join (P := fun J => ∀ (u9 : Unit), J u9 = some r9 → zW X 7 (zZ X false (some (.int r9.1), hi, r9.2)) 0 0 false hi h 353 [] []) hf ?_ ?_
                      · intro u9 hf
                        refine z_iconst C (v := 0) dX6_succeeds_353 (by decide) ?_
                        exact kJ77 _ hf
                      · intro J78 kJ78 hf
                        refine z_aload_n C dX6_succeeds_310 5 rfl rfl ?_
                        refine z_getR C fl_X6_36 dX6_succeeds_311 hf (fun x79 hf => ?_)
                        refine z_iload_n C dX6_succeeds_314 4 rfl rfl ?_
                        refine z_iload_n C dX6_succeeds_315 3 rfl rfl ?_
                        refine z_iload C dX6_succeeds_316 2 rfl ?_
                        obtain ⟨x81, g80, hf⟩ := zbind hf
                        refine z_callV (kc' := 0) (ks' := 0) C (MX3_hasMark (xl X) (xD X) (xT X) (xlo X) false hi g80) (OX3_hasMark g80) rfl cw_X6_328 yv_X3_hasMark dX6_succeeds_318 rfl (by decide) ⟨rfl, rfl⟩ (Nat.le_of_ble_eq_true rfl) (st := []) rfl ?_
                        refine z_if_eq (tgt := 353) C dX6_succeeds_321 (by decide) hf (fun hf => ?_) (fun hf => ?_)
                        · refine z_sub [] rfl ?_
                          exact kJ78 _ hf
                        · refine z_iload C dX6_succeeds_324 1 rfl ?_
                          refine z_iconst C (v := 2) dX6_succeeds_326 (by decide) ?_
                          refine z_icmp_gt (tgt := 353) C dX6_succeeds_327 (by decide) hf (fun hf => ?_) (fun hf => ?_)
                          · refine z_sub [] rfl ?_
                            exact kJ78 _ hf
                          · refine z_aload_n C dX6_succeeds_330 5 rfl rfl ?_
                            refine z_getR C fl_X6_36 dX6_succeeds_331 hf (fun x82 hf => ?_)
                            refine z_iload_n C dX6_succeeds_334 4 rfl rfl ?_
                            refine z_iload_n C dX6_succeeds_335 3 rfl rfl ?_
                            refine z_iload C dX6_succeeds_336 2 rfl ?_
                            obtain ⟨x84, g83, hf⟩ := zbind hf
                            refine z_callV (kc' := 0) (ks' := 0) C (MX3_ownerOf (xl X) (xD X) (xT X) (xlo X) false hi g83) (OX3_ownerOf g83) rfl cw_X6_178 yv_X3_ownerOf dX6_succeeds_338 rfl (by decide) ⟨rfl, rfl⟩ (Nat.le_of_ble_eq_true rfl) (st := []) rfl ?_
                            refine z_iload C dX6_succeeds_341 1 rfl ?_
                            obtain ⟨x86, g85, hf⟩ := zbind hf
                            refine z_callS (kc' := 0) (ks' := 0) C (MX6_letterOrNone (xl X) (xD X) (xT X) (xlo X) false hi g85) cw_X6_373 ys_X6_letterOrNone dX6_succeeds_343 rfl (by decide) ⟨rfl, rfl⟩ (Nat.le_of_ble_eq_true rfl) (st := [.int x84]) rfl ?_
                            refine z_icmp_ne (tgt := 353) C dX6_succeeds_346 (by decide) hf (fun hf => ?_) (fun hf => ?_)
                            · refine z_sub [] rfl ?_
                              exact kJ78 _ hf
                            · refine z_iconst C (v := 1) dX6_succeeds_349 (by decide) ?_
                              refine z_goto (tgt := 354) C dX6_succeeds_350 (by decide) ?_
                              refine z_sub [] rfl ?_
                              exact kJ77 _ hf
                  · refine z_tswOut (tgt := 355) C dX6_succeeds_47 (by have e1 := z_ne (i := 1) (by decide) c1; have e2 := z_ne (i := 2) (by decide) c2; have e3 := z_ne (i := 3) (by decide) c3; have e4 := z_ne (i := 4) (by decide) c4; have e5 := z_ne (i := 5) (by decide) c5; have e6 := z_ne (i := 6) (by decide) c6; have e7 := z_ne (i := 7) (by decide) c7; have e8 := z_ne (i := 8) (by decide) c8; have e9 := z_ne (i := 9) (by decide) c9; omega) (by decide) ?_
                    refine z_iconst C (v := 0) dX6_succeeds_355 (by decide) ?_
                    exact z_zreturn C dX6_succeeds_356 (Or.inl rfl) (by cases hf; rfl)
theorem MX6_succeeds (l : Launch) (D : va_G) (T : zT) (lo : Nat) (hi : Nat) {h : zH} {a0 : Nat} {p0 : Int32} {v9 : Int32} {h9 : zH} (hf : FX6_succeeds T a0 p0 h = some (v9, h9)) : zM l yX6_succeeds (.code yX6_succeeds cX6_succeeds 7 (some .boolean) :: TW) ({ frames := 5, cells := 0, slots := 0, locals := 127 } : Room) D T lo false [.ref a0, .int p0] hi h (some (.int v9), hi, h9) :=
  z_enter (own := RX6) (nm := "succeeds") (lv := [(0, .ref a0), (1, .int p0)]) (by decide +kernel) rfl rfl (Nat.le_of_ble_eq_true rfl) rfl (fun _ _ _ _ _ _ _ _ C => BX6_succeeds C hf)
theorem OX6_succeeds {T : zT} {h : zH} {a0 : Nat} {p0 : Int32} {r9 : (Int32 × zH)} (hf : FX6_succeeds T a0 p0 h = some r9) : ∃ fs, h a0 = some (.inr (6, fs)) := by
  obtain ⟨_, h1, _⟩ := zbind hf
  exact zo_obj h1
theorem dX6_remainder_0 : decode cX6_remainder 0 = .ok (.iload_n 1, 1) := by decide +kernel
theorem dX6_remainder_1 : decode cX6_remainder 1 = .ok (.ifCond .le 9, 3) := by decide +kernel
theorem dX6_remainder_4 : decode cX6_remainder 4 = .ok (.iload_n 0, 1) := by decide +kernel
theorem dX6_remainder_5 : decode cX6_remainder 5 = .ok (.iload_n 1, 1) := by decide +kernel
theorem dX6_remainder_6 : decode cX6_remainder 6 = .ok (.irem, 1) := by decide +kernel
theorem dX6_remainder_7 : decode cX6_remainder 7 = .ok (.goto 4, 3) := by decide +kernel
theorem dX6_remainder_10 : decode cX6_remainder 10 = .ok (.iconst 0, 1) := by decide +kernel
theorem dX6_remainder_11 : decode cX6_remainder 11 = .ok (.ireturn, 1) := by decide +kernel
def FX6_remainder (T : zT) (p0 : Int32) (p1 : Int32) (h : zH) : Option Int32 := zJ (fun (x1 : Int32) => some x1) (fun J2 => if p1 ≤ 0 then (J2 0) else ((zremI p0 p1).bind fun x3 => J2 x3))
set_option maxHeartbeats 4000000 in
set_option maxRecDepth 100000 in
theorem BX6_remainder {X : zX} (C : zC X cX6_remainder 2 RX6 "remainder" (some .int) 0 0) {al : Bool} {hi : Nat} {h : zH} {p0 : Int32} {p1 : Int32} {r9 : Int32} (hf : FX6_remainder (xT X) p0 p1 h = some r9) : zW X 2 (zZ X al (some (.int r9), hi, h)) 0 0 al hi h 0 [(0, .int p0), (1, .int p1)] [] := by
  unfold FX6_remainder at hf
  refine z_join (P := fun J => ∀ (x1 : Int32), J x1 = some r9 → zW X 2 (zZ X al (some (.int r9), hi, h)) 0 0 al hi h 11 [] [.int x1]) hf ?_ ?_
  · intro x1 hf
    exact z_ireturn C dX6_remainder_11 (by cases hf; rfl)
  · intro J2 kJ2 hf
    refine z_iload_n C dX6_remainder_0 1 rfl rfl ?_
    refine z_if_le (tgt := 10) C dX6_remainder_1 (by decide) hf (fun hf => ?_) (fun hf => ?_)
    · refine z_iconst C (v := 0) dX6_remainder_10 (by decide) ?_
      refine z_sub [] rfl ?_
      exact kJ2 _ hf
    · refine z_iload_n C dX6_remainder_4 0 rfl rfl ?_
      refine z_iload_n C dX6_remainder_5 1 rfl rfl ?_
      refine z_irem C dX6_remainder_6 hf (fun x3 _ hf => ?_)
      refine z_goto (tgt := 11) C dX6_remainder_7 (by decide) ?_
      refine z_sub [] rfl ?_
      exact kJ2 _ hf
theorem MX6_remainder (l : Launch) (D : va_G) (T : zT) (lo : Nat) (al : Bool) (hi : Nat) {h : zH} {p0 : Int32} {p1 : Int32} {v9 : Int32} (hf : FX6_remainder T p0 p1 h = some v9) : zM l yX6_remainder (.code yX6_remainder cX6_remainder 2 (some .int) :: TW) ({ frames := 0, cells := 0, slots := 0, locals := 0 } : Room) D T lo al [.int p0, .int p1] hi h (some (.int v9), hi, h) :=
  z_enter (own := RX6) (nm := "remainder") (lv := [(0, .int p0), (1, .int p1)]) (by decide +kernel) rfl rfl (Nat.le_of_ble_eq_true rfl) rfl (fun _ _ _ _ _ _ _ _ C => BX6_remainder C hf)
theorem dX6_playRound_0 : decode cX6_playRound 0 = .ok (.iload_n 1, 1) := by decide +kernel
theorem dX6_playRound_1 : decode cX6_playRound 1 = .ok (.aload_n 0, 1) := by decide +kernel
theorem dX6_playRound_2 : decode cX6_playRound 2 = .ok (.getfield 36, 3) := by decide +kernel
theorem dX6_playRound_5 : decode cX6_playRound 5 = .ok (.getfield 106, 3) := by decide +kernel
theorem dX6_playRound_8 : decode cX6_playRound 8 = .ok (.invokestatic 376, 3) := by decide +kernel
theorem dX6_playRound_11 : decode cX6_playRound 11 = .ok (.istore_n 2, 1) := by decide +kernel
theorem dX6_playRound_12 : decode cX6_playRound 12 = .ok (.iload_n 1, 1) := by decide +kernel
theorem dX6_playRound_13 : decode cX6_playRound 13 = .ok (.bipush 16, 2) := by decide +kernel
theorem dX6_playRound_15 : decode cX6_playRound 15 = .ok (.idiv, 1) := by decide +kernel
theorem dX6_playRound_16 : decode cX6_playRound 16 = .ok (.aload_n 0, 1) := by decide +kernel
theorem dX6_playRound_17 : decode cX6_playRound 17 = .ok (.getfield 36, 3) := by decide +kernel
theorem dX6_playRound_20 : decode cX6_playRound 20 = .ok (.getfield 109, 3) := by decide +kernel
theorem dX6_playRound_23 : decode cX6_playRound 23 = .ok (.invokestatic 376, 3) := by decide +kernel
theorem dX6_playRound_26 : decode cX6_playRound 26 = .ok (.istore_n 3, 1) := by decide +kernel
theorem dX6_playRound_27 : decode cX6_playRound 27 = .ok (.aload_n 0, 1) := by decide +kernel
theorem dX6_playRound_28 : decode cX6_playRound 28 = .ok (.getfield 36, 3) := by decide +kernel
theorem dX6_playRound_31 : decode cX6_playRound 31 = .ok (.iload_n 2, 1) := by decide +kernel
theorem dX6_playRound_32 : decode cX6_playRound 32 = .ok (.iload_n 3, 1) := by decide +kernel
theorem dX6_playRound_33 : decode cX6_playRound 33 = .ok (.invokevirtual 207, 3) := by decide +kernel
theorem dX6_playRound_36 : decode cX6_playRound 36 = .ok (.ifCond .ne 13, 3) := by decide +kernel
theorem dX6_playRound_39 : decode cX6_playRound 39 = .ok (.aload_n 0, 1) := by decide +kernel
theorem dX6_playRound_40 : decode cX6_playRound 40 = .ok (.getfield 36, 3) := by decide +kernel
theorem dX6_playRound_43 : decode cX6_playRound 43 = .ok (.iload_n 2, 1) := by decide +kernel
theorem dX6_playRound_44 : decode cX6_playRound 44 = .ok (.iload_n 3, 1) := by decide +kernel
theorem dX6_playRound_45 : decode cX6_playRound 45 = .ok (.iconst 0, 1) := by decide +kernel
theorem dX6_playRound_46 : decode cX6_playRound 46 = .ok (.invokevirtual 220, 3) := by decide +kernel
theorem dX6_playRound_49 : decode cX6_playRound 49 = .ok (.aload_n 0, 1) := by decide +kernel
theorem dX6_playRound_50 : decode cX6_playRound 50 = .ok (.getfield 36, 3) := by decide +kernel
theorem dX6_playRound_53 : decode cX6_playRound 53 = .ok (.iload_n 2, 1) := by decide +kernel
theorem dX6_playRound_54 : decode cX6_playRound 54 = .ok (.iload_n 3, 1) := by decide +kernel
theorem dX6_playRound_55 : decode cX6_playRound 55 = .ok (.iload_n 1, 1) := by decide +kernel
theorem dX6_playRound_56 : decode cX6_playRound 56 = .ok (.sipush 256, 3) := by decide +kernel
theorem dX6_playRound_59 : decode cX6_playRound 59 = .ok (.idiv, 1) := by decide +kernel
theorem dX6_playRound_60 : decode cX6_playRound 60 = .ok (.bipush 27, 2) := by decide +kernel
theorem dX6_playRound_62 : decode cX6_playRound 62 = .ok (.irem, 1) := by decide +kernel
theorem dX6_playRound_63 : decode cX6_playRound 63 = .ok (.iload_n 1, 1) := by decide +kernel
theorem dX6_playRound_64 : decode cX6_playRound 64 = .ok (.sipush 8192, 3) := by decide +kernel
theorem dX6_playRound_67 : decode cX6_playRound 67 = .ok (.idiv, 1) := by decide +kernel
theorem dX6_playRound_68 : decode cX6_playRound 68 = .ok (.iconst 4, 1) := by decide +kernel
theorem dX6_playRound_69 : decode cX6_playRound 69 = .ok (.irem, 1) := by decide +kernel
theorem dX6_playRound_70 : decode cX6_playRound 70 = .ok (.iload_n 1, 1) := by decide +kernel
theorem dX6_playRound_71 : decode cX6_playRound 71 = .ok (.ldc_w 379, 3) := by decide +kernel
theorem dX6_playRound_74 : decode cX6_playRound 74 = .ok (.idiv, 1) := by decide +kernel
theorem dX6_playRound_75 : decode cX6_playRound 75 = .ok (.bipush 9, 2) := by decide +kernel
theorem dX6_playRound_77 : decode cX6_playRound 77 = .ok (.irem, 1) := by decide +kernel
theorem dX6_playRound_78 : decode cX6_playRound 78 = .ok (.invokevirtual 216, 3) := by decide +kernel
theorem dX6_playRound_81 : decode cX6_playRound 81 = .ok (.return_, 1) := by decide +kernel
def FX6_playRound (T : zT) (a0 : Nat) (p0 : Int32) (h : zH) : Option zH := (zo h a0 6).bind fun _ => zJ (fun (x1 : Int32) (x2 : Int32) (h3 : zH) => (zgr h3 a0 6 4).bind fun x5 => (zdivI p0 256).bind fun x6 => (zremI x6 27).bind fun x7 => (zdivI p0 8192).bind fun x8 => (zremI x8 4).bind fun x9 => (zdivI p0 65536).bind fun x10 => (zremI x10 9).bind fun x11 => (FX3_addMark T x5 x1 x2 x7 x9 x11 h3).bind fun h13 => some h13) (fun J4 => (zgr h a0 6 4).bind fun x14 => (zgi h x14 3 0).bind fun x15 => (FX6_remainder T p0 x15 h).bind fun x17 => (zdivI p0 16).bind fun x18 => (zgr h a0 6 4).bind fun x19 => (zgi h x19 3 1).bind fun x20 => (FX6_remainder T x18 x20 h).bind fun x22 => (zgr h a0 6 4).bind fun x23 => (FX3_hasRoom T x23 x17 x22 h).bind fun x25 => if x25 = 0 then ((zgr h a0 6 4).bind fun x26 => (FX3_removeMark T x26 x17 x22 0 h).bind fun h28 => J4 x17 x22 h28) else (J4 x17 x22 h))
set_option maxHeartbeats 4000000 in
set_option maxRecDepth 100000 in
theorem BX6_playRound {X : zX} (C : zC X cX6_playRound 4 RX6 "playRound" none 3 73) {al : Bool} {hi : Nat} {h : zH} {a0 : Nat} {p0 : Int32} {r9 : zH} (hf : FX6_playRound (xT X) a0 p0 h = some r9) : zW X 4 (zZ X al (none, hi, r9)) 0 0 al hi h 0 [(0, .ref a0), (1, .int p0)] [] := by
  unfold FX6_playRound at hf
  obtain ⟨_, _, hf⟩ := zbind hf
  refine z_join (P := fun J => ∀ (x1 : Int32) (x2 : Int32) (h3 : zH), J x1 x2 h3 = some r9 → zW X 4 (zZ X al (none, hi, r9)) 0 0 al hi h3 49 [(0, .ref a0), (1, .int p0), (2, .int x1), (3, .int x2)] []) hf ?_ ?_
  · intro x1 x2 h3 hf
    refine z_aload_n C dX6_playRound_49 0 rfl rfl ?_
    refine z_getR C fl_X6_36 dX6_playRound_50 hf (fun x5 hf => ?_)
    refine z_iload_n C dX6_playRound_53 2 rfl rfl ?_
    refine z_iload_n C dX6_playRound_54 3 rfl rfl ?_
    refine z_iload_n C dX6_playRound_55 1 rfl rfl ?_
    refine z_sipush C (v := 256) dX6_playRound_56 (by decide) ?_
    refine z_idiv C dX6_playRound_59 hf (fun x6 _ hf => ?_)
    refine z_bipush C (v := 27) dX6_playRound_60 (by decide) ?_
    refine z_irem C dX6_playRound_62 hf (fun x7 _ hf => ?_)
    refine z_iload_n C dX6_playRound_63 1 rfl rfl ?_
    refine z_sipush C (v := 8192) dX6_playRound_64 (by decide) ?_
    refine z_idiv C dX6_playRound_67 hf (fun x8 _ hf => ?_)
    refine z_iconst C (v := 4) dX6_playRound_68 (by decide) ?_
    refine z_irem C dX6_playRound_69 hf (fun x9 _ hf => ?_)
    refine z_iload_n C dX6_playRound_70 1 rfl rfl ?_
    refine z_ldc_w C (v := 65536) mw_419 dX6_playRound_71 ?_
    refine z_idiv C dX6_playRound_74 hf (fun x10 _ hf => ?_)
    refine z_bipush C (v := 9) dX6_playRound_75 (by decide) ?_
    refine z_irem C dX6_playRound_77 hf (fun x11 _ hf => ?_)
    obtain ⟨h13, g12, hf⟩ := zbind hf
    refine z_callV (kc' := 0) (ks' := 0) C (MX3_addMark (xl X) (xD X) (xT X) (xlo X) al hi g12) (OX3_addMark g12) rfl cw_X6_216 yv_X3_addMark dX6_playRound_78 rfl (by decide) ⟨rfl, rfl⟩ (Nat.le_of_ble_eq_true rfl) (st := []) rfl ?_
    exact z_vreturn C dX6_playRound_81 (by cases hf; rfl)
  · intro J4 kJ4 hf
    refine z_iload_n C dX6_playRound_0 1 rfl rfl ?_
    refine z_aload_n C dX6_playRound_1 0 rfl rfl ?_
    refine z_getR C fl_X6_36 dX6_playRound_2 hf (fun x14 hf => ?_)
    refine z_getI C fl_X6_106 dX6_playRound_5 hf (fun x15 hf => ?_)
    obtain ⟨x17, g16, hf⟩ := zbind hf
    refine z_callS (kc' := 0) (ks' := 0) C (MX6_remainder (xl X) (xD X) (xT X) (xlo X) al hi g16) cw_X6_376 ys_X6_remainder dX6_playRound_8 rfl (by decide) ⟨rfl, rfl⟩ (Nat.le_of_ble_eq_true rfl) (st := []) rfl ?_
    refine z_istore_n C dX6_playRound_11 rfl (by decide) (lv' := [(2, .int x17), (0, .ref a0), (1, .int p0)]) rfl ?_
    refine z_iload_n C dX6_playRound_12 2 rfl rfl ?_
    refine z_bipush C (v := 16) dX6_playRound_13 (by decide) ?_
    refine z_idiv C dX6_playRound_15 hf (fun x18 _ hf => ?_)
    refine z_aload_n C dX6_playRound_16 1 rfl rfl ?_
    refine z_getR C fl_X6_36 dX6_playRound_17 hf (fun x19 hf => ?_)
    refine z_getI C fl_X6_109 dX6_playRound_20 hf (fun x20 hf => ?_)
    obtain ⟨x22, g21, hf⟩ := zbind hf
    refine z_callS (kc' := 0) (ks' := 0) C (MX6_remainder (xl X) (xD X) (xT X) (xlo X) al hi g21) cw_X6_376 ys_X6_remainder dX6_playRound_23 rfl (by decide) ⟨rfl, rfl⟩ (Nat.le_of_ble_eq_true rfl) (st := []) rfl ?_
    refine z_istore_n C dX6_playRound_26 rfl (by decide) (lv' := [(3, .int x22), (2, .int x17), (0, .ref a0), (1, .int p0)]) rfl ?_
    refine z_aload_n C dX6_playRound_27 2 rfl rfl ?_
    refine z_getR C fl_X6_36 dX6_playRound_28 hf (fun x23 hf => ?_)
    refine z_iload_n C dX6_playRound_31 1 rfl rfl ?_
    refine z_iload_n C dX6_playRound_32 0 rfl rfl ?_
    obtain ⟨x25, g24, hf⟩ := zbind hf
    refine z_callV (kc' := 0) (ks' := 0) C (MX3_hasRoom (xl X) (xD X) (xT X) (xlo X) al hi g24) (OX3_hasRoom g24) rfl cw_X6_207 yv_X3_hasRoom dX6_playRound_33 rfl (by decide) ⟨rfl, rfl⟩ (Nat.le_of_ble_eq_true rfl) (st := []) rfl ?_
    refine z_if_ne (tgt := 49) C dX6_playRound_36 (by decide) hf (fun hf => ?_) (fun hf => ?_)
    · refine z_sub [2, 3, 1, 0] rfl ?_
      exact kJ4 _ _ _ hf
    · refine z_aload_n C dX6_playRound_39 2 rfl rfl ?_
      refine z_getR C fl_X6_36 dX6_playRound_40 hf (fun x26 hf => ?_)
      refine z_iload_n C dX6_playRound_43 1 rfl rfl ?_
      refine z_iload_n C dX6_playRound_44 0 rfl rfl ?_
      refine z_iconst C (v := 0) dX6_playRound_45 (by decide) ?_
      obtain ⟨h28, g27, hf⟩ := zbind hf
      refine z_callV (kc' := 0) (ks' := 0) C (MX3_removeMark (xl X) (xD X) (xT X) (xlo X) al hi g27) (OX3_removeMark g27) rfl cw_X6_220 yv_X3_removeMark dX6_playRound_46 rfl (by decide) ⟨rfl, rfl⟩ (Nat.le_of_ble_eq_true rfl) (st := []) rfl ?_
      refine z_sub [2, 3, 1, 0] rfl ?_
      exact kJ4 _ _ _ hf
theorem MX6_playRound (l : Launch) (D : va_G) (T : zT) (lo : Nat) (al : Bool) (hi : Nat) {h : zH} {a0 : Nat} {p0 : Int32} {h9 : zH} (hf : FX6_playRound T a0 p0 h = some h9) : zM l yX6_playRound (.code yX6_playRound cX6_playRound 4 none :: TW) ({ frames := 3, cells := 0, slots := 0, locals := 73 } : Room) D T lo al [.ref a0, .int p0] hi h (none, hi, h9) :=
  z_enter (own := RX6) (nm := "playRound") (lv := [(0, .ref a0), (1, .int p0)]) (by decide +kernel) rfl rfl (Nat.le_of_ble_eq_true rfl) rfl (fun _ _ _ _ _ _ _ _ C => BX6_playRound C hf)
theorem OX6_playRound {T : zT} {h : zH} {a0 : Nat} {p0 : Int32} {r9 : zH} (hf : FX6_playRound T a0 p0 h = some r9) : ∃ fs, h a0 = some (.inr (6, fs)) := by
  obtain ⟨_, h1, _⟩ := zbind hf
  exact zo_obj h1
