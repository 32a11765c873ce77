section
-- ===== PART A: goes FIRST, ahead of the names: the tables' words, and 'selects' of the private methods out of them =====
/-- a private method of a class that the tables say can be made, by its rows of tables_1 -/
def lw_okq (q : MethodName × Nat) : Prop := (q.1.cls ≠ "java/lang/invoke/MethodHandle" ∧ q.1.cls ≠ "java/lang/invoke/VarHandle") ∧ Cond.instantiable q.1.cls q.2 ∈ tables_1 ∧ Cond.privateMethod q.1 ∈ tables_1 ∧ Cond.instanceMethod q.1 ∈ tables_1
theorem lw_p0 : lw_okq (⟨"CrossedSheet", "readText", "()I"⟩, 12) := ⟨⟨by decide +kernel, by decide +kernel⟩, List.mem_of_getElem? (i := 18) (by decide +kernel), List.mem_of_getElem? (i := 270) (by decide +kernel), List.mem_of_getElem? (i := 271) (by decide +kernel)⟩
theorem lw_p1 : lw_okq (⟨"CrossedSheet$TextReader", "takeSetting", "(LCrossedSheet$Sheet;I)V"⟩, 7) := ⟨⟨by decide +kernel, by decide +kernel⟩, List.mem_of_getElem? (i := 37) (by decide +kernel), List.mem_of_getElem? (i := 319) (by decide +kernel), List.mem_of_getElem? (i := 320) (by decide +kernel)⟩
theorem lw_p2 : lw_okq (⟨"CrossedSheet$TextReader", "takeOfMark", "(LCrossedSheet$Sheet;I)V"⟩, 7) := ⟨⟨by decide +kernel, by decide +kernel⟩, List.mem_of_getElem? (i := 37) (by decide +kernel), List.mem_of_getElem? (i := 323) (by decide +kernel), List.mem_of_getElem? (i := 324) (by decide +kernel)⟩
theorem lw_p3 : lw_okq (⟨"CrossedSheet$Sheet", "putMark", "(IIIII)V"⟩, 12) := ⟨⟨by decide +kernel, by decide +kernel⟩, List.mem_of_getElem? (i := 65) (by decide +kernel), List.mem_of_getElem? (i := 339) (by decide +kernel), List.mem_of_getElem? (i := 340) (by decide +kernel)⟩
theorem lw_p4 : lw_okq (⟨"CrossedSheet$TextReader", "takeOfLetter", "(LCrossedSheet$Sheet;I)V"⟩, 7) := ⟨⟨by decide +kernel, by decide +kernel⟩, List.mem_of_getElem? (i := 37) (by decide +kernel), List.mem_of_getElem? (i := 343) (by decide +kernel), List.mem_of_getElem? (i := 344) (by decide +kernel)⟩
theorem lw_p5 : lw_okq (⟨"CrossedSheet$Shelf", "sheetAt", "(I)LCrossedSheet$Sheet;"⟩, 2) := ⟨⟨by decide +kernel, by decide +kernel⟩, List.mem_of_getElem? (i := 155) (by decide +kernel), List.mem_of_getElem? (i := 364) (by decide +kernel), List.mem_of_getElem? (i := 365) (by decide +kernel)⟩
theorem lw_p6 : lw_okq (⟨"CrossedSheet$Sheet", "turnCell", "(LCrossedSheet$Sheet;II)V"⟩, 12) := ⟨⟨by decide +kernel, by decide +kernel⟩, List.mem_of_getElem? (i := 65) (by decide +kernel), List.mem_of_getElem? (i := 388) (by decide +kernel), List.mem_of_getElem? (i := 389) (by decide +kernel)⟩
theorem lw_p7 : lw_okq (⟨"CrossedSheet", "readPresent", "(I)I"⟩, 12) := ⟨⟨by decide +kernel, by decide +kernel⟩, List.mem_of_getElem? (i := 18) (by decide +kernel), List.mem_of_getElem? (i := 392) (by decide +kernel), List.mem_of_getElem? (i := 393) (by decide +kernel)⟩
theorem lw_p8 : lw_okq (⟨"CrossedSheet$Sheet", "decisionOf", "(III)I"⟩, 12) := ⟨⟨by decide +kernel, by decide +kernel⟩, List.mem_of_getElem? (i := 65) (by decide +kernel), List.mem_of_getElem? (i := 410) (by decide +kernel), List.mem_of_getElem? (i := 411) (by decide +kernel)⟩
theorem lw_p9 : lw_okq (⟨"CrossedSheet$Sheet", "leaningOf", "(II)I"⟩, 12) := ⟨⟨by decide +kernel, by decide +kernel⟩, List.mem_of_getElem? (i := 65) (by decide +kernel), List.mem_of_getElem? (i := 414) (by decide +kernel), List.mem_of_getElem? (i := 415) (by decide +kernel)⟩
theorem lw_p10 : lw_okq (⟨"CrossedSheet$Reading", "goTo", "(III)V"⟩, 9) := ⟨⟨by decide +kernel, by decide +kernel⟩, List.mem_of_getElem? (i := 186) (by decide +kernel), List.mem_of_getElem? (i := 426) (by decide +kernel), List.mem_of_getElem? (i := 427) (by decide +kernel)⟩
theorem lw_p11 : lw_okq (⟨"CrossedSheet$Reading", "takeSign", "(I)V"⟩, 9) := ⟨⟨by decide +kernel, by decide +kernel⟩, List.mem_of_getElem? (i := 186) (by decide +kernel), List.mem_of_getElem? (i := 432) (by decide +kernel), List.mem_of_getElem? (i := 433) (by decide +kernel)⟩
theorem lw_p12 : lw_okq (⟨"CrossedSheet$Reading", "isSameWord", "(ILCrossedSheet$Reading;I)Z"⟩, 9) := ⟨⟨by decide +kernel, by decide +kernel⟩, List.mem_of_getElem? (i := 186) (by decide +kernel), List.mem_of_getElem? (i := 445) (by decide +kernel), List.mem_of_getElem? (i := 446) (by decide +kernel)⟩
theorem lw_p13 : lw_okq (⟨"java/lang/Throwable", "fillInStackTrace", "(I)Ljava/lang/Throwable;"⟩, 6) := ⟨⟨by decide +kernel, by decide +kernel⟩, List.mem_of_getElem? (i := 521) (by decide +kernel), List.mem_of_getElem? (i := 519) (by decide +kernel), List.mem_of_getElem? (i := 520) (by decide +kernel)⟩
theorem lw_p14 : lw_okq (⟨"CrossedSheet", "checkCell", "(II)V"⟩, 12) := ⟨⟨by decide +kernel, by decide +kernel⟩, List.mem_of_getElem? (i := 18) (by decide +kernel), List.mem_of_getElem? (i := 646) (by decide +kernel), List.mem_of_getElem? (i := 647) (by decide +kernel)⟩
theorem lw_p15 : lw_okq (⟨"CrossedSheet", "checkMark", "(III)V"⟩, 12) := ⟨⟨by decide +kernel, by decide +kernel⟩, List.mem_of_getElem? (i := 18) (by decide +kernel), List.mem_of_getElem? (i := 660) (by decide +kernel), List.mem_of_getElem? (i := 661) (by decide +kernel)⟩
def lw_privs_1 : List (MethodName × Nat) := [(⟨"CrossedSheet", "readText", "()I"⟩, 12), (⟨"CrossedSheet$TextReader", "takeSetting", "(LCrossedSheet$Sheet;I)V"⟩, 7), (⟨"CrossedSheet$TextReader", "takeOfMark", "(LCrossedSheet$Sheet;I)V"⟩, 7), (⟨"CrossedSheet$Sheet", "putMark", "(IIIII)V"⟩, 12), (⟨"CrossedSheet$TextReader", "takeOfLetter", "(LCrossedSheet$Sheet;I)V"⟩, 7), (⟨"CrossedSheet$Shelf", "sheetAt", "(I)LCrossedSheet$Sheet;"⟩, 2), (⟨"CrossedSheet$Sheet", "turnCell", "(LCrossedSheet$Sheet;II)V"⟩, 12), (⟨"CrossedSheet", "readPresent", "(I)I"⟩, 12), (⟨"CrossedSheet$Sheet", "decisionOf", "(III)I"⟩, 12), (⟨"CrossedSheet$Sheet", "leaningOf", "(II)I"⟩, 12), (⟨"CrossedSheet$Reading", "goTo", "(III)V"⟩, 9), (⟨"CrossedSheet$Reading", "takeSign", "(I)V"⟩, 9), (⟨"CrossedSheet$Reading", "isSameWord", "(ILCrossedSheet$Reading;I)Z"⟩, 9), (⟨"java/lang/Throwable", "fillInStackTrace", "(I)Ljava/lang/Throwable;"⟩, 6), (⟨"CrossedSheet", "checkCell", "(II)V"⟩, 12), (⟨"CrossedSheet", "checkMark", "(III)V"⟩, 12)]
theorem lw_r1 : ∀ q ∈ lw_privs_1, lw_okq q := List.forall_mem_cons.mpr ⟨lw_p0, List.forall_mem_cons.mpr ⟨lw_p1, List.forall_mem_cons.mpr ⟨lw_p2, List.forall_mem_cons.mpr ⟨lw_p3, List.forall_mem_cons.mpr ⟨lw_p4, List.forall_mem_cons.mpr ⟨lw_p5, List.forall_mem_cons.mpr ⟨lw_p6, List.forall_mem_cons.mpr ⟨lw_p7, List.forall_mem_cons.mpr ⟨lw_p8, List.forall_mem_cons.mpr ⟨lw_p9, List.forall_mem_cons.mpr ⟨lw_p10, List.forall_mem_cons.mpr ⟨lw_p11, List.forall_mem_cons.mpr ⟨lw_p12, List.forall_mem_cons.mpr ⟨lw_p13, List.forall_mem_cons.mpr ⟨lw_p14, List.forall_mem_cons.mpr ⟨lw_p15, fun _ h => absurd h List.not_mem_nil⟩⟩⟩⟩⟩⟩⟩⟩⟩⟩⟩⟩⟩⟩⟩⟩
theorem lw_p16 : lw_okq (⟨"CrossedSheet", "checkWord", "(I)V"⟩, 12) := ⟨⟨by decide +kernel, by decide +kernel⟩, List.mem_of_getElem? (i := 18) (by decide +kernel), List.mem_of_getElem? (i := 683) (by decide +kernel), List.mem_of_getElem? (i := 684) (by decide +kernel)⟩
theorem lw_p17 : lw_okq (⟨"CrossedSheet", "splitSigns", "(IJ)Z"⟩, 12) := ⟨⟨by decide +kernel, by decide +kernel⟩, List.mem_of_getElem? (i := 18) (by decide +kernel), List.mem_of_getElem? (i := 797) (by decide +kernel), List.mem_of_getElem? (i := 798) (by decide +kernel)⟩
theorem lw_p18 : lw_okq (⟨"CrossedSheet", "splitScript", "(IJ)Z"⟩, 12) := ⟨⟨by decide +kernel, by decide +kernel⟩, List.mem_of_getElem? (i := 18) (by decide +kernel), List.mem_of_getElem? (i := 856) (by decide +kernel), List.mem_of_getElem? (i := 857) (by decide +kernel)⟩
theorem lw_p19 : lw_okq (⟨"CrossedSheet", "succeeds", "(I)Z"⟩, 12) := ⟨⟨by decide +kernel, by decide +kernel⟩, List.mem_of_getElem? (i := 18) (by decide +kernel), List.mem_of_getElem? (i := 862) (by decide +kernel), List.mem_of_getElem? (i := 863) (by decide +kernel)⟩
theorem lw_p20 : lw_okq (⟨"CrossedSheet", "tryDecide", "(IIII)Z"⟩, 12) := ⟨⟨by decide +kernel, by decide +kernel⟩, List.mem_of_getElem? (i := 18) (by decide +kernel), List.mem_of_getElem? (i := 866) (by decide +kernel), List.mem_of_getElem? (i := 867) (by decide +kernel)⟩
theorem lw_p21 : lw_okq (⟨"CrossedSheet", "tryErase", "(III)Z"⟩, 12) := ⟨⟨by decide +kernel, by decide +kernel⟩, List.mem_of_getElem? (i := 18) (by decide +kernel), List.mem_of_getElem? (i := 870) (by decide +kernel), List.mem_of_getElem? (i := 871) (by decide +kernel)⟩
theorem lw_p22 : lw_okq (⟨"CrossedSheet", "trySetLetter", "(IIII)Z"⟩, 12) := ⟨⟨by decide +kernel, by decide +kernel⟩, List.mem_of_getElem? (i := 18) (by decide +kernel), List.mem_of_getElem? (i := 874) (by decide +kernel), List.mem_of_getElem? (i := 875) (by decide +kernel)⟩
theorem lw_p23 : lw_okq (⟨"CrossedSheet", "trySetMargin", "(I)Z"⟩, 12) := ⟨⟨by decide +kernel, by decide +kernel⟩, List.mem_of_getElem? (i := 18) (by decide +kernel), List.mem_of_getElem? (i := 878) (by decide +kernel), List.mem_of_getElem? (i := 879) (by decide +kernel)⟩
theorem lw_p24 : lw_okq (⟨"CrossedSheet", "tryTurn", "()Z"⟩, 12) := ⟨⟨by decide +kernel, by decide +kernel⟩, List.mem_of_getElem? (i := 18) (by decide +kernel), List.mem_of_getElem? (i := 882) (by decide +kernel), List.mem_of_getElem? (i := 883) (by decide +kernel)⟩
theorem lw_p25 : lw_okq (⟨"CrossedSheet", "playRound", "(I)V"⟩, 12) := ⟨⟨by decide +kernel, by decide +kernel⟩, List.mem_of_getElem? (i := 18) (by decide +kernel), List.mem_of_getElem? (i := 896) (by decide +kernel), List.mem_of_getElem? (i := 897) (by decide +kernel)⟩
theorem lw_p26 : lw_okq (⟨"CrossedSheetModel", "refused", "(I)Z"⟩, 19) := ⟨⟨by decide +kernel, by decide +kernel⟩, List.mem_of_getElem? (i := 926) (by decide +kernel), List.mem_of_getElem? (i := 1006) (by decide +kernel), List.mem_of_getElem? (i := 1007) (by decide +kernel)⟩
theorem lw_p27 : lw_okq (⟨"CrossedSheetModel", "readAll", "()Z"⟩, 19) := ⟨⟨by decide +kernel, by decide +kernel⟩, List.mem_of_getElem? (i := 926) (by decide +kernel), List.mem_of_getElem? (i := 1018) (by decide +kernel), List.mem_of_getElem? (i := 1019) (by decide +kernel)⟩
theorem lw_p28 : lw_okq (⟨"CrossedSheetModel", "eat", "(I)Z"⟩, 19) := ⟨⟨by decide +kernel, by decide +kernel⟩, List.mem_of_getElem? (i := 926) (by decide +kernel), List.mem_of_getElem? (i := 1022) (by decide +kernel), List.mem_of_getElem? (i := 1023) (by decide +kernel)⟩
theorem lw_p29 : lw_okq (⟨"CrossedSheetModel", "digit", "(II)I"⟩, 19) := ⟨⟨by decide +kernel, by decide +kernel⟩, List.mem_of_getElem? (i := 926) (by decide +kernel), List.mem_of_getElem? (i := 1026) (by decide +kernel), List.mem_of_getElem? (i := 1027) (by decide +kernel)⟩
theorem lw_p30 : lw_okq (⟨"CrossedSheetModel", "readPart", "()Z"⟩, 19) := ⟨⟨by decide +kernel, by decide +kernel⟩, List.mem_of_getElem? (i := 926) (by decide +kernel), List.mem_of_getElem? (i := 1031) (by decide +kernel), List.mem_of_getElem? (i := 1032) (by decide +kernel)⟩
theorem lw_p31 : lw_okq (⟨"CrossedSheetModel", "hasAnyRoom", "()Z"⟩, 19) := ⟨⟨by decide +kernel, by decide +kernel⟩, List.mem_of_getElem? (i := 926) (by decide +kernel), List.mem_of_getElem? (i := 1035) (by decide +kernel), List.mem_of_getElem? (i := 1036) (by decide +kernel)⟩
def lw_privs_2 : List (MethodName × Nat) := [(⟨"CrossedSheet", "checkWord", "(I)V"⟩, 12), (⟨"CrossedSheet", "splitSigns", "(IJ)Z"⟩, 12), (⟨"CrossedSheet", "splitScript", "(IJ)Z"⟩, 12), (⟨"CrossedSheet", "succeeds", "(I)Z"⟩, 12), (⟨"CrossedSheet", "tryDecide", "(IIII)Z"⟩, 12), (⟨"CrossedSheet", "tryErase", "(III)Z"⟩, 12), (⟨"CrossedSheet", "trySetLetter", "(IIII)Z"⟩, 12), (⟨"CrossedSheet", "trySetMargin", "(I)Z"⟩, 12), (⟨"CrossedSheet", "tryTurn", "()Z"⟩, 12), (⟨"CrossedSheet", "playRound", "(I)V"⟩, 12), (⟨"CrossedSheetModel", "refused", "(I)Z"⟩, 19), (⟨"CrossedSheetModel", "readAll", "()Z"⟩, 19), (⟨"CrossedSheetModel", "eat", "(I)Z"⟩, 19), (⟨"CrossedSheetModel", "digit", "(II)I"⟩, 19), (⟨"CrossedSheetModel", "readPart", "()Z"⟩, 19), (⟨"CrossedSheetModel", "hasAnyRoom", "()Z"⟩, 19)]
theorem lw_r2 : ∀ q ∈ lw_privs_2, lw_okq q := List.forall_mem_cons.mpr ⟨lw_p16, List.forall_mem_cons.mpr ⟨lw_p17, List.forall_mem_cons.mpr ⟨lw_p18, List.forall_mem_cons.mpr ⟨lw_p19, List.forall_mem_cons.mpr ⟨lw_p20, List.forall_mem_cons.mpr ⟨lw_p21, List.forall_mem_cons.mpr ⟨lw_p22, List.forall_mem_cons.mpr ⟨lw_p23, List.forall_mem_cons.mpr ⟨lw_p24, List.forall_mem_cons.mpr ⟨lw_p25, List.forall_mem_cons.mpr ⟨lw_p26, List.forall_mem_cons.mpr ⟨lw_p27, List.forall_mem_cons.mpr ⟨lw_p28, List.forall_mem_cons.mpr ⟨lw_p29, List.forall_mem_cons.mpr ⟨lw_p30, List.forall_mem_cons.mpr ⟨lw_p31, fun _ h => absurd h List.not_mem_nil⟩⟩⟩⟩⟩⟩⟩⟩⟩⟩⟩⟩⟩⟩⟩⟩
theorem lw_p32 : lw_okq (⟨"CrossedSheetModel", "hasRoom", "(I)Z"⟩, 19) := ⟨⟨by decide +kernel, by decide +kernel⟩, List.mem_of_getElem? (i := 926) (by decide +kernel), List.mem_of_getElem? (i := 1039) (by decide +kernel), List.mem_of_getElem? (i := 1040) (by decide +kernel)⟩
theorem lw_p33 : lw_okq (⟨"CrossedSheetModel", "readMark", "()Z"⟩, 19) := ⟨⟨by decide +kernel, by decide +kernel⟩, List.mem_of_getElem? (i := 926) (by decide +kernel), List.mem_of_getElem? (i := 1046) (by decide +kernel), List.mem_of_getElem? (i := 1047) (by decide +kernel)⟩
theorem lw_p34 : lw_okq (⟨"CrossedSheetModel", "readSign", "()I"⟩, 19) := ⟨⟨by decide +kernel, by decide +kernel⟩, List.mem_of_getElem? (i := 926) (by decide +kernel), List.mem_of_getElem? (i := 1050) (by decide +kernel), List.mem_of_getElem? (i := 1051) (by decide +kernel)⟩
theorem lw_p35 : lw_okq (⟨"CrossedSheetModel", "readNumber", "(III)Z"⟩, 19) := ⟨⟨by decide +kernel, by decide +kernel⟩, List.mem_of_getElem? (i := 926) (by decide +kernel), List.mem_of_getElem? (i := 1061) (by decide +kernel), List.mem_of_getElem? (i := 1062) (by decide +kernel)⟩
theorem lw_p36 : lw_okq (⟨"CrossedSheetModel", "readPen", "()Z"⟩, 19) := ⟨⟨by decide +kernel, by decide +kernel⟩, List.mem_of_getElem? (i := 926) (by decide +kernel), List.mem_of_getElem? (i := 1065) (by decide +kernel), List.mem_of_getElem? (i := 1066) (by decide +kernel)⟩
theorem lw_p37 : lw_okq (⟨"CrossedSheetModel", "countOf", "(I)I"⟩, 19) := ⟨⟨by decide +kernel, by decide +kernel⟩, List.mem_of_getElem? (i := 926) (by decide +kernel), List.mem_of_getElem? (i := 1101) (by decide +kernel), List.mem_of_getElem? (i := 1102) (by decide +kernel)⟩
theorem lw_p38 : lw_okq (⟨"CrossedSheetModel", "layNow", "(I)I"⟩, 19) := ⟨⟨by decide +kernel, by decide +kernel⟩, List.mem_of_getElem? (i := 926) (by decide +kernel), List.mem_of_getElem? (i := 1116) (by decide +kernel), List.mem_of_getElem? (i := 1117) (by decide +kernel)⟩
theorem lw_p39 : lw_okq (⟨"CrossedSheetModel", "layWords", "([III)I"⟩, 19) := ⟨⟨by decide +kernel, by decide +kernel⟩, List.mem_of_getElem? (i := 926) (by decide +kernel), List.mem_of_getElem? (i := 1120) (by decide +kernel), List.mem_of_getElem? (i := 1121) (by decide +kernel)⟩
theorem lw_p40 : lw_okq (⟨"CrossedSheetModel", "beginWord", "(Z)V"⟩, 19) := ⟨⟨by decide +kernel, by decide +kernel⟩, List.mem_of_getElem? (i := 926) (by decide +kernel), List.mem_of_getElem? (i := 1127) (by decide +kernel), List.mem_of_getElem? (i := 1128) (by decide +kernel)⟩
theorem lw_p41 : lw_okq (⟨"CrossedSheetModel", "isWord", "(II)Z"⟩, 19) := ⟨⟨by decide +kernel, by decide +kernel⟩, List.mem_of_getElem? (i := 926) (by decide +kernel), List.mem_of_getElem? (i := 1150) (by decide +kernel), List.mem_of_getElem? (i := 1151) (by decide +kernel)⟩
theorem lw_p42 : lw_okq (⟨"CrossedSheetModel", "note", "()V"⟩, 19) := ⟨⟨by decide +kernel, by decide +kernel⟩, List.mem_of_getElem? (i := 926) (by decide +kernel), List.mem_of_getElem? (i := 1169) (by decide +kernel), List.mem_of_getElem? (i := 1170) (by decide +kernel)⟩
theorem lw_p43 : lw_okq (⟨"CrossedSheetModel", "turnOn", "([I)V"⟩, 19) := ⟨⟨by decide +kernel, by decide +kernel⟩, List.mem_of_getElem? (i := 926) (by decide +kernel), List.mem_of_getElem? (i := 1210) (by decide +kernel), List.mem_of_getElem? (i := 1211) (by decide +kernel)⟩
theorem lw_p44 : lw_okq (⟨"CrossedSheetModel", "beginsWith", "(IIJ)Z"⟩, 19) := ⟨⟨by decide +kernel, by decide +kernel⟩, List.mem_of_getElem? (i := 926) (by decide +kernel), List.mem_of_getElem? (i := 1232) (by decide +kernel), List.mem_of_getElem? (i := 1233) (by decide +kernel)⟩
theorem lw_p45 : lw_okq (⟨"CrossedSheetModel", "does", "(IIIII)Z"⟩, 19) := ⟨⟨by decide +kernel, by decide +kernel⟩, List.mem_of_getElem? (i := 926) (by decide +kernel), List.mem_of_getElem? (i := 1267) (by decide +kernel), List.mem_of_getElem? (i := 1268) (by decide +kernel)⟩
def lw_privs_3 : List (MethodName × Nat) := [(⟨"CrossedSheetModel", "hasRoom", "(I)Z"⟩, 19), (⟨"CrossedSheetModel", "readMark", "()Z"⟩, 19), (⟨"CrossedSheetModel", "readSign", "()I"⟩, 19), (⟨"CrossedSheetModel", "readNumber", "(III)Z"⟩, 19), (⟨"CrossedSheetModel", "readPen", "()Z"⟩, 19), (⟨"CrossedSheetModel", "countOf", "(I)I"⟩, 19), (⟨"CrossedSheetModel", "layNow", "(I)I"⟩, 19), (⟨"CrossedSheetModel", "layWords", "([III)I"⟩, 19), (⟨"CrossedSheetModel", "beginWord", "(Z)V"⟩, 19), (⟨"CrossedSheetModel", "isWord", "(II)Z"⟩, 19), (⟨"CrossedSheetModel", "note", "()V"⟩, 19), (⟨"CrossedSheetModel", "turnOn", "([I)V"⟩, 19), (⟨"CrossedSheetModel", "beginsWith", "(IIJ)Z"⟩, 19), (⟨"CrossedSheetModel", "does", "(IIIII)Z"⟩, 19)]
theorem lw_r3 : ∀ q ∈ lw_privs_3, lw_okq q := List.forall_mem_cons.mpr ⟨lw_p32, List.forall_mem_cons.mpr ⟨lw_p33, List.forall_mem_cons.mpr ⟨lw_p34, List.forall_mem_cons.mpr ⟨lw_p35, List.forall_mem_cons.mpr ⟨lw_p36, List.forall_mem_cons.mpr ⟨lw_p37, List.forall_mem_cons.mpr ⟨lw_p38, List.forall_mem_cons.mpr ⟨lw_p39, List.forall_mem_cons.mpr ⟨lw_p40, List.forall_mem_cons.mpr ⟨lw_p41, List.forall_mem_cons.mpr ⟨lw_p42, List.forall_mem_cons.mpr ⟨lw_p43, List.forall_mem_cons.mpr ⟨lw_p44, List.forall_mem_cons.mpr ⟨lw_p45, fun _ h => absurd h List.not_mem_nil⟩⟩⟩⟩⟩⟩⟩⟩⟩⟩⟩⟩⟩⟩
def lw_privs : List (MethodName × Nat) := lw_privs_1 ++ (lw_privs_2 ++ (lw_privs_3))
def lw_tbl : List Cond := k2_sels lw_privs ++ tables_1
theorem lw_privs_ok : ∀ q ∈ lw_privs, lw_okq q := by
  show ∀ q ∈ lw_privs_1 ++ (lw_privs_2 ++ (lw_privs_3)), lw_okq q
  exact List.forall_mem_append.mpr ⟨lw_r1, List.forall_mem_append.mpr ⟨lw_r2, lw_r3⟩⟩
-- ===== end of PART A; then your names; then what follows =====
end
section
/-! ===== BEGIN words of one list among another's, by their places ===== -/
theorem goodIn_r {big : List Cond} (ws : List Cond) (ps : List Nat) (hp : ws = ps.filterMap (fun i => big[i]?)) (h : ws.all goodWord = true) : GoodIn big ws := by
  intro w hw
  have h1 := List.all_eq_true.mp h w hw
  rw [hp] at hw
  obtain ⟨i, -, hi⟩ := List.mem_filterMap.mp hw
  have hm : w ∈ big := by first | exact List.mem_of_getElem? hi | exact List.getElem?_mem hi
  exact ⟨hm, good_of_word h1⟩
theorem goodIn_app {big a b : List Cond} (ha : GoodIn big a) (hb : GoodIn big b) : GoodIn big (a ++ b) := fun w h => (List.mem_append.mp h).elim (ha w) (hb w)
theorem goodIn_ca {big a b : List Cond} {c : Cond} (ha : GoodIn big (c :: a)) (hb : GoodIn big b) : GoodIn big (c :: (a ++ b)) := fun w h => (List.mem_cons.mp h).elim (fun e => ha w (List.mem_cons.mpr (Or.inl e))) (fun h => (List.mem_append.mp h).elim (fun h => ha w (List.mem_cons.mpr (Or.inr h))) (hb w))
theorem goodIn_sub {big ws : List Cond} (hm : ∀ w ∈ ws, w ∈ big) (h : ws.all goodWord = true) : GoodIn big ws := fun w hw => ⟨hm w hw, good_of_word (List.all_eq_true.mp h w hw)⟩
/-! ===== END ===== -/

/-! ===== BEGIN exceptions that leave a method, and their catching by the caller (launches without stack traces) ===== -/
section VXA
/-! The laws vx_back, vx_callV, vx_callS, vx_callSW, vx_throw0, vx_throwS follow proofs of the library, with one case more: JvmDerived/Free/Laws.lean (Back.of_free), Shelf42/LK1.lean (callV, callS), Shelf/KitTraced.lean (throwNew0V, throwNewS). -/
/-- where a method has thrown q: the class by its name, the cell, what was written, the world -/
def vx_T (XC : String → State → State → Prop) (st : State) (q : Addr) (t : State) (mc ms : Nat) (free : Addr → Prop) : Prop :=
  ∃ (E : String) (ce : Cell) (L : List Loc), XC E st t ∧ t.heap[q]? = some ce ∧ ce.vm = .none ∧ st.vm.findClass E = some ce.cls ∧ st.WarmedH t.vm ∧ st.sameButNew ({ t with vm := st.vm } : State) L mc ms ∧ ∀ z ∈ L, free z.base
def vx_Q (Qc : Array Value → State → Outcome → State → Prop) (XC : String → State → State → Prop) (mc ms : Nat) (free : Addr → Prop) : Array Value → State → Outcome → State → Prop := fun a st o t =>
  (Qc a st o t ∧ ∃ L, FrameEnd st o t L mc ms ∧ ∀ q ∈ L, free q.base) ∨ ∃ q, o = .threw q ∧ vx_T XC st q t mc ms free
/-- a callee that returns or throws -/
def vx_Met (l : Launch) (y : MethodName) (ws : List Cond) (rm : Room) (Pc : Array Value → State → Prop) (Qc : Array Value → State → Outcome → State → Prop) (XC : String → State → State → Prop) (mc ms : Nat) (free : Addr → Prop) : Prop :=
  MetFree l y (headSpec ws rm) Pc (fun _ _ _ _ _ => True) (vx_Q Qc XC mc ms free)
def vx_Post (XC : String → State → State → Prop) (mc ms : Nat) (free : Addr → Prop) : Pt → Array Value → Addr → Pt → Prop := fun A a q B =>
  ∃ (g : JFrame) (mk : MethodId) (t : State) (L : List Loc) (E : String) (ce : Cell), B.U.heap = t.heap ∧ B.U.vm = t.vm ∧ XC E (A.U.calling g mk a) t ∧ t.heap[q]? = some ce ∧ ce.vm = .none ∧ A.U.vm.findClass E = some ce.cls ∧ B.locs = A.locs ++ L ∧ (∀ z ∈ L, free z.base) ∧ B.cells = A.cells + mc ∧ B.slots = A.slots + ms
def vx_Back (l : Launch) (R : Room) (p : Program) (e : Env) (below : List Frame) (s : State) (sargs : Array Value) (y : MethodName) (len W9 : Nat)
    (Pre : Pt → Array Value → Prop) (Post : Pt → Array Value → Option Value → Pt → Prop) (PostX : Pt → Array Value → Addr → Pt → Prop) : Prop :=
  ∀ (m : MethodId) (meth : Method) (c : Code) (A : Pt) (g : JFrame) (ig : Instr) (mk : MethodId) (a : Array Value),
    Stand p l e R s m sargs below meth c A.U A.locs A.cells A.slots → g.method = m → g.locals.size = c.maxLocals → decode c.code g.pc = .ok (ig, len) →
    2 * g.monitorRoom + (g.stack.map fun v => v.category).sum ≤ W9 → A.U.methodNamed? y = some mk → Pre A a →
    (∃ (v : Option Value) (B : Pt), Stand p l e R s m sargs below meth c B.U B.locs B.cells B.slots ∧ Post A a v B ∧
      Steps p.tables e below (doInvoke e (A.U.setTop g) [] mk a).1 (B.U.setTop { g with pc := g.pc + len, stack := v.toList ++ g.stack })) ∨
    (∃ (q : Addr) (B : Pt), Stand p l e R s m sargs below meth c B.U B.locs B.cells B.slots ∧ PostX A a q B ∧
      Steps p.tables e below (doInvoke e (A.U.setTop g) [] mk a).1 ((B.U.setTop g).pushFrame (.throwing q)))
section Payer
variable {l : Launch} {R : Room} {p : Program} {e : Env} {below : List Frame} {s : State} {sargs : Array Value} {y : MethodName} {len W9 : Nat}
theorem vx_back {ws : List Cond} {rm : Room} {Pc : Array Value → State → Prop} {Qc : Array Value → State → Outcome → State → Prop} {XC : String → State → State → Prop} {mc ms : Nat} {free : Addr → Prop} {bytes : ByteArray} {maxL : Nat} {ret : Option FieldType}
    (hM : vx_Met l y ws rm Pc Qc XC mc ms free) (hblind : FrameBlind Pc) (hrc : rm.cells = mc) (hrs : rm.slots = ms)
    (hframes : rm.frames + 1 ≤ R.frames) (hlocals : W9 + (maxL + 11) + rm.locals ≤ R.locals)
    (hws : ∀ w ∈ ws, ∀ a' U, s.WarmedH U.vm → w.before a' U = true) (hcode : Cond.code y bytes maxL ret ∈ ws) (hinit : ∀ a' U, s.WarmedH U.vm → (Cond.initialized y.cls).before a' U = true) :
    vx_Back l R p e below s sargs y len W9 (PreOf R mc ms Pc) (PostOf Qc mc ms free) (vx_Post XC mc ms free) := by
  intro m meth c A g ig mk a X hg hsize hdg hW hn hp
  have h1 : (headSpec ws rm).pre.before a A.U = true := atoms_intro fun w hw => hws w hw _ _ X.warmed
  have h2 : (Cond.code y bytes maxL ret).before a A.U = true := hws _ hcode _ _ X.warmed
  have h3 : (Cond.initialized y.cls).before a A.U = true := hinit _ _ X.warmed
  have h4 : A.cells + (headSpec ws rm).room.cells ≤ R.cells := by rw [show (headSpec ws rm).room.cells = mc from hrc]; exact hp.1
  have h5 : A.slots + (headSpec ws rm).room.slots ≤ R.slots := by rw [show (headSpec ws rm).room.slots = ms from hrs]; exact hp.2.1
  have hPc : Pc a (A.U.calling g mk a) := hblind _ _ _ _ hp.2.2
  obtain ⟨U, Ls, c0, s0⟩ := A
  dsimp only [Pt.U, Pt.locs, Pt.cells, Pt.slots] at h1 h2 h3 h4 h5 X hn hPc ⊢
  obtain ⟨methY, cY, hmY, hcY, -, hlY, -, -, -, -⟩ := Cond.code_spec hn h2
  obtain ⟨kY, hkY, -⟩ := className_of_methodNamed hn
  have hinitY : kY.init = .initialized := Cond.initialized_spec (findClass_of_methodNamed hn) hkY h3
  have h : At U g.method c below := by rw [hg]; exact X.here
  have hlocals9 : W9 + (maxL + 11) + (headSpec ws rm).room.locals ≤ R.locals := hlocals
  have happ : (headSpec ws rm).appliesLoose y e.platform (U.calling g mk a) = true :=
    Spec.appliesLoose_calling (g := g) h hdg hn hkY hinitY
      (X.room_calling (g := g) (R' := (headSpec ws rm).room) hsize hmY hcY hframes (by rw [hlY]; omega) h4 h5) h1
  obtain ⟨mid, hmid⟩ := h.above
  have hfr : (U.setTop g).frames = (.java g :: mid) ++ below := by rw [State.frames_setTop' g h.top, hmid]; rfl
  obtain ⟨o, s₂, hsteps, -, hend, hq⟩ := Steps.callFree hM p X.admits X.cas X.clock (acts := []) hfr happ hPc trivial
  have hq' : vx_Q Qc XC mc ms free a (U.calling g mk a) o s₂ := hq
  rw [State.frames_setTop' g h.top] at hend
  obtain ⟨g₀, hg0⟩ := Option.isSome_iff_exists.mp h.top
  obtain ⟨r, hr⟩ := State.topJava?_eq_some.mp hg0
  have hr' : (({ U with heap := s₂.heap, slotsUsed := s₂.slotsUsed } : State).setVm s₂.vm).frames = .java g₀ :: r := hr
  rcases hq' with ⟨hqc, L, hfe, hL⟩ | ⟨q, rfl, E, ce, L, hx, hce, hcv, hcl, hW₂, hsm, hL⟩
  · obtain ⟨⟨v, rfl⟩, hW₂, e2, q2, q3, q4, q5, q6⟩ := id hfe
    have e3 : s₂ = ({ (U.calling g mk a).setFrames s₂.frames with heap := s₂.heap, slotsUsed := s₂.slotsUsed } : State).setVm s₂.vm := by
      have : s₂ = ({ s₂ with vm := (U.calling g mk a).vm } : State).setVm s₂.vm := rfl
      rw [e2] at this
      exact this
    obtain ⟨c₂, i₂, len₂, hc₂, hd₂, hf₂⟩ := hend
    have hW' : U.WarmedH s₂.vm := hW₂
    have hcc : c₂ = c := by
      have h1 : s₂.code? g.method = U.code? g.method := by
        rw [State.code?_eq, State.code?_eq, hW'.alike.method?]
      exact Option.some.inj (hc₂.symm.trans (h1.trans h.code))
    subst hcc
    have hlen : len₂ = len := by rw [hdg] at hd₂; cases hd₂; rfl
    subst hlen
    have hs₂ : s₂ = (({ U with heap := s₂.heap, slotsUsed := s₂.slotsUsed } : State).setVm s₂.vm).setTop { g with pc := g.pc + len₂, stack := v.toList ++ g.stack } := by
      refine e3.trans ?_
      rw [hf₂, State.calling_eq h.top, State.setFrames_setFrames, State.setTop_of_frames _ hr', hr]
      rfl
    have hsame : U.sameButNew ({ U with heap := s₂.heap, slotsUsed := s₂.slotsUsed } : State) L mc ms := by
      refine ⟨?_, q2, q3, q4, q5, q6⟩
      obtain ⟨t, ht, -⟩ := State.frames_cons hr
      show ({ U with heap := s₂.heap, slotsUsed := s₂.slotsUsed } : State) = { U.setFrames U.frames with heap := s₂.heap, slotsUsed := s₂.slotsUsed }
      rw [State.setFrames_self ht]
    subst hg
    refine Or.inl ⟨v, ⟨(({ U with heap := s₂.heap, slotsUsed := s₂.slotsUsed } : State).setVm s₂.vm), Ls ++ L, c0 + mc, s0 + ms⟩,
      ⟨X.admits, X.cas, X.clock, X.frames, X.room, X.hears, X.method, X.code, (X.here.setHeapUsed s₂.heap s₂.slotsUsed).setVm hW'.alike, X.tail, State.WarmedH.trans X.warmed hW', X.limits, X.bytes, X.same.trans (hsame.setVm s.vm)⟩,
      ⟨g, mk, s₂, L, rfl, rfl, hqc, rfl, hL, rfl, rfl⟩, ?_⟩
    show Steps p.tables e below _ ((({ U with heap := s₂.heap, slotsUsed := s₂.slotsUsed } : State).setVm s₂.vm).setTop { g with pc := g.pc + len₂, stack := v.toList ++ g.stack })
    rw [← hs₂]
    exact hsteps
  · obtain ⟨e2, q2, q3, q4, q5, q6⟩ := id hsm
    have e3 : s₂ = ({ (U.calling g mk a).setFrames s₂.frames with heap := s₂.heap, slotsUsed := s₂.slotsUsed } : State).setVm s₂.vm := by
      have : s₂ = ({ s₂ with vm := (U.calling g mk a).vm } : State).setVm s₂.vm := rfl
      rw [e2] at this
      exact this
    have hf₂ : s₂.frames = .throwing q :: .java g :: U.frames.tail := hend
    have hW' : U.WarmedH s₂.vm := hW₂
    have hs₂ : s₂ = ((({ U with heap := s₂.heap, slotsUsed := s₂.slotsUsed } : State).setVm s₂.vm).setTop g).pushFrame (.throwing q) := by
      refine e3.trans ?_
      rw [hf₂, State.calling_eq h.top, State.setFrames_setFrames, State.pushFrame, State.frames_setTop _ hr', State.setTop_of_frames _ hr', State.setFrames_setFrames, hr]
      rfl
    have hsame : U.sameButNew ({ U with heap := s₂.heap, slotsUsed := s₂.slotsUsed } : State) L mc ms := by
      refine ⟨?_, q2, q3, q4, q5, q6⟩
      obtain ⟨t, ht, -⟩ := State.frames_cons hr
      show ({ U with heap := s₂.heap, slotsUsed := s₂.slotsUsed } : State) = { U.setFrames U.frames with heap := s₂.heap, slotsUsed := s₂.slotsUsed }
      rw [State.setFrames_self ht]
    subst hg
    refine Or.inr ⟨q, ⟨(({ U with heap := s₂.heap, slotsUsed := s₂.slotsUsed } : State).setVm s₂.vm), Ls ++ L, c0 + mc, s0 + ms⟩,
      ⟨X.admits, X.cas, X.clock, X.frames, X.room, X.hears, X.method, X.code, (X.here.setHeapUsed s₂.heap s₂.slotsUsed).setVm hW'.alike, X.tail, State.WarmedH.trans X.warmed hW', X.limits, X.bytes, X.same.trans (hsame.setVm s.vm)⟩,
      ⟨g, mk, s₂, L, E, ce, rfl, rfl, hx, hce, hcv, hcl, rfl, hL, rfl, rfl⟩, ?_⟩
    show Steps p.tables e below _ (((({ U with heap := s₂.heap, slotsUsed := s₂.slotsUsed } : State).setVm s₂.vm).setTop g).pushFrame (.throwing q))
    rw [← hs₂]
    exact hsteps
end Payer
section Calls
variable {p : Program} {l : Launch} {e : Env} {R : Room} {s : State} {m : MethodId} {args : Array Value} {below : List Frame} {meth : Method} {c : Code} {T : State} {locs : List Loc} {cells slots : Nat}
theorem vx_callV (X : Stand p l e R s m args below meth c T locs cells slots) (hexec : p.tables.exec = Jvm.exec) {own C : String} {index : Nat} {y : MethodName} {bytes : ByteArray} {maxL : Nat} {ret : Option FieldType}
    (hown : s.vm.findClass own = some m.cls) (hlink : (Cond.methodLink own index y).before args s = true) (hinst : (Cond.instanceMethod y).before args s = true) (hsel : (Cond.selects C y y).before args s = true)
    (hcode : (Cond.code y bytes maxL ret).before args s = true) (hy : y.cls ≠ "java/lang/invoke/MethodHandle" ∧ y.cls ≠ "java/lang/invoke/VarHandle")
    {W9 : Nat} {Pre : Pt → Array Value → Prop} {Post : Pt → Array Value → Option Value → Pt → Prop} {PostX : Pt → Array Value → Addr → Pt → Prop} (hK : vx_Back l R p e below s args y 3 W9 Pre Post PostX)
    {b : Addr} {cellB : Cell} (hcell : T.heap[b]? = some cellB) (hobj : cellB.vm.isStatics = false) (hcls : s.vm.findClass C = some cellB.cls)
    {g : JFrame} (hg : g.method = m) (hsize : g.locals.size = c.maxLocals) {argsL rest : List Value} (hlen : ∀ sig, parseMethodDescriptor y.desc = some sig → argsL.length = sig.parameters.length)
    (hstack : g.stack = argsL.reverse ++ .ref b :: rest) (hW : 2 * g.monitorRoom + (rest.map fun v => v.category).sum ≤ W9) (hdg : decode c.code g.pc = .ok (.invokevirtual index, 3))
    (hpre : ∀ vm₁, s.WarmedH vm₁ → Pre ⟨T.setVm vm₁, locs, cells, slots⟩ (Value.ref b :: argsL).toArray) :
    (∃ (v : Option Value) (vm₁ : Vm) (B : Pt), s.WarmedH vm₁ ∧ Stand p l e R s m args below meth c B.U B.locs B.cells B.slots ∧ Post ⟨T.setVm vm₁, locs, cells, slots⟩ (Value.ref b :: argsL).toArray v B ∧
      ∀ target, Steps p.tables e below (B.U.setTop { g with pc := g.pc + 3, stack := v.toList ++ rest }) target → Steps p.tables e below (T.setTop g) target) ∨
    (∃ (q : Addr) (vm₁ : Vm) (B : Pt), s.WarmedH vm₁ ∧ Stand p l e R s m args below meth c B.U B.locs B.cells B.slots ∧ PostX ⟨T.setVm vm₁, locs, cells, slots⟩ (Value.ref b :: argsL).toArray q B ∧
      Steps p.tables e below (T.setTop g) ((B.U.setTop { g with stack := rest }).pushFrame (.throwing q))) := by
  obtain ⟨mk, methM, hnamed, hmethM, hstM, habM⟩ := Cond.instanceMethod_spec hinst
  obtain ⟨methM', cM, hmethM', -, -, -, -, -, -, hsigM⟩ := Cond.code_spec hnamed hcode
  cases hmethM.symm.trans hmethM'
  obtain ⟨c2, r2, m2, q1, q2, q3, q4, kP, hkP, hkPi⟩ := Cond.selects_spec hsel
  cases hcls.symm.trans q1
  cases (State.methodFound?_of_named hnamed hy).symm.trans q2
  cases hnamed.symm.trans q3
  have hselP : selectMethod e.platform s.vm cellB.cls mk = .method mk := by rw [Launch.admits_selectMethod X.admits]; exact q4
  obtain ⟨vm₁, X₁, hstep₁⟩ := X.invokevirtual hexec hown hlink hnamed hmethM hstM hkP hkPi hy (a := b) (cell := cellB) hcell
    (fun z h => by rw [h] at hobj; cases hobj) hselP hmethM habM hkP hkPi (g := g) hg (argsL := argsL) (rest := rest) (hlen _ hsigM) hstack hdg
  rcases hK m meth c ⟨T.setVm vm₁, locs, cells, slots⟩ { g with stack := rest } (.invokevirtual index) mk (Value.ref b :: argsL).toArray X₁ hg hsize hdg hW (X₁.named hnamed) (hpre vm₁ X₁.warmed) with ⟨v, B, X', hpost, hsteps⟩ | ⟨q, B, X', hpost, hsteps⟩
  · exact Or.inl ⟨v, vm₁, B, X₁.warmed, X', hpost, fun target h => hstep₁ _ fun acts => by rw [doInvoke_state]; exact hsteps.trans h⟩
  · exact Or.inr ⟨q, vm₁, B, X₁.warmed, X', hpost, hstep₁ _ fun acts => by rw [doInvoke_state]; exact hsteps⟩
theorem vx_callS (X : Stand p l e R s m args below meth c T locs cells slots) (hexec : p.tables.exec = Jvm.exec) {own : String} {index : Nat} {y : MethodName} {bytes : ByteArray} {maxL : Nat} {ret : Option FieldType}
    (hown : s.vm.findClass own = some m.cls) (hlink : (Cond.methodLink own index y).before args s = true) (hstat : (Cond.static y).before args s = true) (hinit : (Cond.initialized y.cls).before args s = true)
    (hcode : (Cond.code y bytes maxL ret).before args s = true) (hy : y.cls ≠ "java/lang/invoke/MethodHandle" ∧ y.cls ≠ "java/lang/invoke/VarHandle")
    {W9 : Nat} {Pre : Pt → Array Value → Prop} {Post : Pt → Array Value → Option Value → Pt → Prop} {PostX : Pt → Array Value → Addr → Pt → Prop} (hK : vx_Back l R p e below s args y 3 W9 Pre Post PostX)
    {g : JFrame} (hg : g.method = m) (hsize : g.locals.size = c.maxLocals) {argsL rest : List Value} (hlen : ∀ sig, parseMethodDescriptor y.desc = some sig → argsL.length = sig.parameters.length)
    (hstack : g.stack = argsL.reverse ++ rest) (hW : 2 * g.monitorRoom + (rest.map fun v => v.category).sum ≤ W9) (hdg : decode c.code g.pc = .ok (.invokestatic index, 3))
    (hpre : ∀ vm₁, s.WarmedH vm₁ → Pre ⟨T.setVm vm₁, locs, cells, slots⟩ argsL.toArray) :
    (∃ (v : Option Value) (vm₁ : Vm) (B : Pt), s.WarmedH vm₁ ∧ Stand p l e R s m args below meth c B.U B.locs B.cells B.slots ∧ Post ⟨T.setVm vm₁, locs, cells, slots⟩ argsL.toArray v B ∧
      ∀ target, Steps p.tables e below (B.U.setTop { g with pc := g.pc + 3, stack := v.toList ++ rest }) target → Steps p.tables e below (T.setTop g) target) ∨
    (∃ (q : Addr) (vm₁ : Vm) (B : Pt), s.WarmedH vm₁ ∧ Stand p l e R s m args below meth c B.U B.locs B.cells B.slots ∧ PostX ⟨T.setVm vm₁, locs, cells, slots⟩ argsL.toArray q B ∧
      Steps p.tables e below (T.setTop g) ((B.U.setTop { g with stack := rest }).pushFrame (.throwing q))) := by
  obtain ⟨mk, hnamed⟩ := Cond.code_named hcode
  obtain ⟨methM, cM, hmethM, -, -, -, -, -, -, hsigM⟩ := Cond.code_spec hnamed hcode
  have hstatic : methM.isStatic = true := Cond.static_spec hnamed hmethM hstat
  obtain ⟨kP, hkP, -⟩ := className_of_methodNamed hnamed
  have hinitP : kP.init = .initialized := Cond.initialized_spec (findClass_of_methodNamed hnamed) hkP hinit
  obtain ⟨vm₁, X₁, hstep₁⟩ := X.invokestatic hexec hown hlink hnamed hmethM hstatic hkP hinitP hy (g := g) hg (argsL := argsL) (rest := rest) (hlen _ hsigM) hstack hdg
  rcases hK m meth c ⟨T.setVm vm₁, locs, cells, slots⟩ { g with stack := rest } (.invokestatic index) mk argsL.toArray X₁ hg hsize hdg hW (X₁.named hnamed) (hpre vm₁ X₁.warmed) with ⟨v, B, X', hpost, hsteps⟩ | ⟨q, B, X', hpost, hsteps⟩
  · exact Or.inl ⟨v, vm₁, B, X₁.warmed, X', hpost, fun target h => hstep₁ _ fun acts => by rw [doInvoke_state]; exact hsteps.trans h⟩
  · exact Or.inr ⟨q, vm₁, B, X₁.warmed, X', hpost, hstep₁ _ fun acts => by rw [doInvoke_state]; exact hsteps⟩
end Calls
theorem vx_cls {s : State} {T : State} {vm₁ : Vm} {E : String} {k : ClassId} (hW : s.WarmedH vm₁) (h : (T.setVm vm₁).vm.findClass E = some k) : s.vm.findClass E = some k := by
  have h1 : vm₁.findClass E = some k := h
  rw [hW.alike.findClass] at h1
  exact h1
/-- the method's frame g, with q thrown over it -/
def vx_W (p : Program) (l : Launch) (e : Env) (R : Room) (s : State) (m : MethodId) (args : Array Value) (below : List Frame) (meth : Method) (c : Code) (H : Heap) (locs : List Loc) (cells slots : Nat) (Q : State → Prop) (g : JFrame) (q : Addr) : Prop :=
  ∀ T : State, T.heap = H → Stand p l e R s m args below meth c T locs cells slots → ∃ t, Steps p.tables e below ((T.setTop g).pushFrame (.throwing q)) t ∧ Q t
def vx_Run (p : Program) (l : Launch) (e : Env) (R : Room) (s : State) (m : MethodId) (args : Array Value) (below : List Frame) (meth : Method) (c : Code) (H : Heap) (locs : List Loc) (cells slots mc ms : Nat) (g : JFrame) (rest : List Value) (Qa : State → Outcome → State → Prop) (XC : String → State → State → Prop) (free : Addr → Prop) : Prop :=
  ∀ T : State, T.heap = H → Stand p l e R s m args below meth c T locs cells slots →
    (∃ (v : Option Value) (st₀ t T' : State) (L : List Loc), st₀.heap = H ∧ Stand p l e R s m args below meth c T' (locs ++ L) (cells + mc) (slots + ms) ∧ (∀ q ∈ L, free q.base) ∧ T'.heap = t.heap ∧ T'.vm = t.vm ∧ Qa st₀ (.returned v) t ∧
      Goes p e below T g T' { g with pc := g.pc + 3, stack := v.toList ++ rest }) ∨
    (∃ (q : Addr) (st₀ t T' : State) (L : List Loc) (E : String) (ce : Cell), st₀.heap = H ∧ Stand p l e R s m args below meth c T' (locs ++ L) (cells + mc) (slots + ms) ∧ (∀ z ∈ L, free z.base) ∧ T'.heap = t.heap ∧ T'.vm = t.vm ∧ XC E st₀ t ∧ t.heap[q]? = some ce ∧ ce.vm = .none ∧ s.vm.findClass E = some ce.cls ∧
      Steps p.tables e below (T.setTop g) ((T'.setTop { g with stack := rest }).pushFrame (.throwing q)))
def vx_X {S : Type} (px : S → Prop) (B : String → S → State → Prop) (A : Nat → Prop) : String → State → State → Prop := fun E st t => ∃ u : S, px u ∧ B E u t ∧ va_F A st t
section Runs
variable {p : Program} {l : Launch} {e : Env} {R : Room} {s : State} {m : MethodId} {args : Array Value} {below : List Frame} {meth : Method} {c : Code} {H : Heap} {locs : List Loc} {cells slots : Nat}
variable {y : MethodName} {bytes cc : ByteArray} {maxL nL mc ms n index : Nat} {ret : Option FieldType} {ws : List Cond} {rm : Room} {Pc : Array Value → State → Prop} {Qc : Array Value → State → Outcome → State → Prop} {XC : String → State → State → Prop} {free : Addr → Prop} {Ts : List Cond} {own C : String} {b : Addr} {As rest : List Value} {g : JFrame}
theorem vx_callBack (cb : CallB R s args own index y bytes maxL ret ws rm mc ms n) (hM : vx_Met l y ws rm Pc Qc XC mc ms free) (hbl : FrameBlind Pc) : vx_Back l R p e below s args y 3 8 (PreOf R mc ms Pc) (PostOf Qc mc ms free) (vx_Post XC mc ms free) := by
  obtain ⟨hrc, hrs, hfr, hlo, hws, hcw, -, hini, -⟩ := cb
  exact vx_back (bytes := bytes) (maxL := maxL) (ret := ret) hM hbl hrc hrs hfr hlo hws hcw (fun a' U hW => word_at hW (Or.inl (by first | rfl | simp [Cond.onTables, Cond.keeps, Cond.steady])) hini)
theorem vx_runV (S : CallFix p m c cc nL s args Ts own) (hM : vx_Met l y ws rm Pc Qc XC mc ms free) (cw : CallW R s args own C index y bytes maxL ret ws rm mc ms n) (hp : PreV s H C b Pc As)
    (hg : g.method = m) (hn : As.length = n) (hsize : g.locals.size = nL) (hstack : g.stack = As.reverse ++ .ref b :: rest) (hW : 2 * g.monitorRoom + (rest.map fun v => v.category).sum ≤ 8) (hdg : decode cc g.pc = .ok (.invokevirtual index, 3)) (hf : cells + mc ≤ R.cells ∧ slots + ms ≤ R.slots) :
    vx_Run p l e R s m args below meth c H locs cells slots mc ms g rest (Qc (Value.ref b :: As).toArray) XC free := by
  have hK : vx_Back l R p e below s args y 3 8 (PreOf R mc ms Pc) (PostOf Qc mc ms free) (vx_Post XC mc ms free) := vx_callBack cw.1 hM hp.1
  obtain ⟨⟨-, -, -, -, -, -, hcode, -, hy, hlen, hl⟩, hin, hse⟩ := cw
  obtain ⟨hx, hb, hml, ho, -⟩ := S
  obtain ⟨-, ⟨cellB, hcB, hoB, hclB⟩, hPc⟩ := hp
  intro T hT X
  rcases vx_callV X hx (C := C) (bytes := bytes) (maxL := maxL) (ret := ret) ho hl hin hse hcode hy hK (by rw [hT]; exact hcB) hoB hclB hg (hsize.trans hml.symm) (argsL := As) (rest := rest) (fun sig h => hn.trans (hlen sig h)) hstack hW (by rw [hb]; exact hdg)
    (fun vm₁ hW₁ => ⟨hf.1, hf.2, hPc (T.setVm vm₁) hT hW₁⟩) with ⟨v, vm₁, ⟨U', l2, c2, s2⟩, hW₁, X', ⟨g', mk, t, L, e1, e2, hq, h1, hL, h2, h3⟩, st⟩ | ⟨q, vm₁, ⟨U', l2, c2, s2⟩, hW₁, X', ⟨g', mk, t, L, E, ce, e1, e2, hq, hce, hcv, hcl, h1, hL, h2, h3⟩, st⟩
  · dsimp only [Pt.U, Pt.locs, Pt.cells, Pt.slots] at X' e1 e2 h1 h2 h3 st
    subst h1; subst h2; subst h3
    exact Or.inl ⟨v, (T.setVm vm₁).calling g' mk (Value.ref b :: As).toArray, t, U', L, hT, X', hL, e1, e2, hq, st⟩
  · dsimp only [Pt.U, Pt.locs, Pt.cells, Pt.slots] at X' e1 e2 h1 h2 h3 st hcl
    subst h1; subst h2; subst h3
    exact Or.inr ⟨q, (T.setVm vm₁).calling g' mk (Value.ref b :: As).toArray, t, U', L, E, ce, hT, X', hL, e1, e2, hq, hce, hcv, vx_cls hW₁ hcl, st⟩
theorem vx_runS (S : CallFix p m c cc nL s args Ts own) (hM : vx_Met l y ws rm Pc Qc XC mc ms free) (cw : CallB R s args own index y bytes maxL ret ws rm mc ms n ∧ (Cond.static y).before args s = true) (hp : PreS s H Pc As)
    (hg : g.method = m) (hn : As.length = n) (hsize : g.locals.size = nL) (hstack : g.stack = As.reverse ++ rest) (hW : 2 * g.monitorRoom + (rest.map fun v => v.category).sum ≤ 8) (hdg : decode cc g.pc = .ok (.invokestatic index, 3)) (hf : cells + mc ≤ R.cells ∧ slots + ms ≤ R.slots) :
    vx_Run p l e R s m args below meth c H locs cells slots mc ms g rest (Qc As.toArray) XC free := by
  have hK : vx_Back l R p e below s args y 3 8 (PreOf R mc ms Pc) (PostOf Qc mc ms free) (vx_Post XC mc ms free) := vx_callBack cw.1 hM hp.1
  obtain ⟨⟨-, -, -, -, -, -, hcode, hini, hy, hlen, hl⟩, hstt⟩ := cw
  obtain ⟨hx, hb, hml, ho, -⟩ := S
  intro T hT X
  rcases vx_callS X hx (bytes := bytes) (maxL := maxL) (ret := ret) ho hl hstt hini hcode hy hK hg (hsize.trans hml.symm) (argsL := As) (rest := rest) (fun sig h => hn.trans (hlen sig h)) hstack hW (by rw [hb]; exact hdg)
    (fun vm₁ hW₁ => ⟨hf.1, hf.2, hp.2 (T.setVm vm₁) hT hW₁⟩) with ⟨v, vm₁, ⟨U', l2, c2, s2⟩, hW₁, X', ⟨g', mk, t, L, e1, e2, hq, h1, hL, h2, h3⟩, st⟩ | ⟨q, vm₁, ⟨U', l2, c2, s2⟩, hW₁, X', ⟨g', mk, t, L, E, ce, e1, e2, hq, hce, hcv, hcl, h1, hL, h2, h3⟩, st⟩
  · dsimp only [Pt.U, Pt.locs, Pt.cells, Pt.slots] at X' e1 e2 h1 h2 h3 st
    subst h1; subst h2; subst h3
    exact Or.inl ⟨v, (T.setVm vm₁).calling g' mk As.toArray, t, U', L, hT, X', hL, e1, e2, hq, st⟩
  · dsimp only [Pt.U, Pt.locs, Pt.cells, Pt.slots] at X' e1 e2 h1 h2 h3 st hcl
    subst h1; subst h2; subst h3
    exact Or.inr ⟨q, (T.setVm vm₁).calling g' mk As.toArray, t, U', L, E, ce, hT, X', hL, e1, e2, hq, hce, hcv, vx_cls hW₁ hcl, st⟩
end Runs
section Rows
variable {p : Program} {l : Launch} {e : Env} {R : Room} {s : State} {m : MethodId} {args : Array Value} {below : List Frame} {meth : Method} {c : Code} {H : Heap} {locs : List Loc} {cells slots : Nat} {Q : State → Prop}
variable {mc ms : Nat} {free : Addr → Prop} {A0 A1 : Nat → Prop} {H0 : Heap} {a : Array Value} {pc : Nat} {ls : Array Slot} {st0 rest : List Value}
theorem vx_keep {st₀ t T' : State} {L : List Loc} (h0 : st₀.heap = H) (e1 : T'.heap = t.heap) (hS : va_S A0 H0 H locs) (hA : ∀ q, q < H.size → A1 q → A0 q) (hf : ∀ q, free q → A0 q) (hL : ∀ q ∈ L, free q.base) (hF : va_F A1 st₀ t) :
    H.size ≤ T'.heap.size ∧ (∀ q : Nat, q < H.size → ¬ A1 q → T'.heap[q]? = H[q]?) ∧ va_S A0 H0 T'.heap (locs ++ L) := by
  obtain ⟨hz, hk⟩ := hF
  rw [h0] at hz hk
  exact ⟨by rw [e1]; exact hz, fun q h1 h2 => by rw [e1]; exact hk q h1 h2,
    ⟨Nat.le_trans hS.1 (by rw [e1]; exact hz), fun q h1 h2 => by rw [e1, hk q (Nat.lt_of_lt_of_le h1 hS.1) (fun z => h2 (hA q (Nat.lt_of_lt_of_le h1 hS.1) z))]; exact hS.2.1 q h1 h2, fun q hq => by
      rcases List.mem_append.mp hq with h | h
      · exact hS.2.2 q h
      · exact hf _ (hL q h)⟩⟩
theorem vx_calli {S SX : Type} {post : Int32 → S → Prop} {px : SX → Prop} {B : S → State → Prop} {BX : String → SX → State → Prop} {AX : Nat → Prop} (hr : vx_Run p l e R s m args below meth c H locs cells slots mc ms (F0 m pc ls st0) rest (va_Qi post B A1 a) (vx_X px BX AX) free) (hS : va_S A0 H0 H locs) (hA : ∀ q, q < H.size → A1 q → A0 q) (hf : ∀ q, free q → A0 q) (hAX : ∀ q, q < H.size → AX q → A0 q)
    (kx : ∀ (E : String) (ce : Cell) (q9 : Addr) (u : SX) (t : State) (H1 : Heap) (locs1 : List Loc), t.heap = H1 → s.vm.Alike t.vm → px u → BX E u t → H.size ≤ H1.size → (∀ q : Nat, q < H.size → ¬ AX q → H1[q]? = H[q]?) → va_S A0 H0 H1 locs1 → H1[q9]? = some ce → ce.vm = .none → s.vm.findClass E = some ce.cls → vx_W p l e R s m args below meth c H1 locs1 (cells + mc) (slots + ms) Q (F0 m pc ls rest) q9)
    (kk : ∀ (r : Int32) (u : S) (t : State) (H1 : Heap) (locs1 : List Loc), t.heap = H1 → s.vm.Alike t.vm → post r u → B u t → H.size ≤ H1.size → (∀ q : Nat, q < H.size → ¬ A1 q → H1[q]? = H[q]?) → va_S A0 H0 H1 locs1 → W p l e R s m args below meth c H1 locs1 (cells + mc) (slots + ms) Q (F0 m (pc + 3) ls (.int r :: rest))) : W p l e R s m args below meth c H locs cells slots Q (F0 m pc ls st0) := by
  intro T hT X
  rcases hr T hT X with ⟨v, st₀, t, T', L, h0, X', hL, e1, e2, ⟨⟨r, u, hv, hp, hb⟩, hF⟩, st⟩ | ⟨q, st₀, t, T', L, E, ce, h0, X', hL, e1, e2, ⟨u, hp, hb, hF⟩, hce, hcv, hcl, st⟩
  · cases hv
    obtain ⟨k1, k2, k3⟩ := vx_keep h0 e1 hS hA hf hL hF
    obtain ⟨t2, a1, b1⟩ := kk r u t T'.heap (locs ++ L) e1.symm (by rw [← e2]; exact X'.warmed.alike) hp hb k1 k2 k3 T' rfl X'
    exact ⟨t2, st t2 a1, b1⟩
  · obtain ⟨k1, k2, k3⟩ := vx_keep h0 e1 hS hAX hf hL hF
    obtain ⟨t2, a1, b1⟩ := kx E ce q u t T'.heap (locs ++ L) e1.symm (by rw [← e2]; exact X'.warmed.alike) hp hb k1 k2 k3 (by rw [e1]; exact hce) hcv hcl T' rfl X'
    exact ⟨t2, st.trans a1, b1⟩
theorem vx_calll {S SX : Type} {post : Int64 → S → Prop} {px : SX → Prop} {B : S → State → Prop} {BX : String → SX → State → Prop} {AX : Nat → Prop} (hr : vx_Run p l e R s m args below meth c H locs cells slots mc ms (F0 m pc ls st0) rest (va_Ql post B A1 a) (vx_X px BX AX) free) (hS : va_S A0 H0 H locs) (hA : ∀ q, q < H.size → A1 q → A0 q) (hf : ∀ q, free q → A0 q) (hAX : ∀ q, q < H.size → AX q → A0 q)
    (kx : ∀ (E : String) (ce : Cell) (q9 : Addr) (u : SX) (t : State) (H1 : Heap) (locs1 : List Loc), t.heap = H1 → s.vm.Alike t.vm → px u → BX E u t → H.size ≤ H1.size → (∀ q : Nat, q < H.size → ¬ AX q → H1[q]? = H[q]?) → va_S A0 H0 H1 locs1 → H1[q9]? = some ce → ce.vm = .none → s.vm.findClass E = some ce.cls → vx_W p l e R s m args below meth c H1 locs1 (cells + mc) (slots + ms) Q (F0 m pc ls rest) q9)
    (kk : ∀ (r : Int64) (u : S) (t : State) (H1 : Heap) (locs1 : List Loc), t.heap = H1 → s.vm.Alike t.vm → post r u → B u t → H.size ≤ H1.size → (∀ q : Nat, q < H.size → ¬ A1 q → H1[q]? = H[q]?) → va_S A0 H0 H1 locs1 → W p l e R s m args below meth c H1 locs1 (cells + mc) (slots + ms) Q (F0 m (pc + 3) ls (.long r :: rest))) : W p l e R s m args below meth c H locs cells slots Q (F0 m pc ls st0) := by
  intro T hT X
  rcases hr T hT X with ⟨v, st₀, t, T', L, h0, X', hL, e1, e2, ⟨⟨r, u, hv, hp, hb⟩, hF⟩, st⟩ | ⟨q, st₀, t, T', L, E, ce, h0, X', hL, e1, e2, ⟨u, hp, hb, hF⟩, hce, hcv, hcl, st⟩
  · cases hv
    obtain ⟨k1, k2, k3⟩ := vx_keep h0 e1 hS hA hf hL hF
    obtain ⟨t2, a1, b1⟩ := kk r u t T'.heap (locs ++ L) e1.symm (by rw [← e2]; exact X'.warmed.alike) hp hb k1 k2 k3 T' rfl X'
    exact ⟨t2, st t2 a1, b1⟩
  · obtain ⟨k1, k2, k3⟩ := vx_keep h0 e1 hS hAX hf hL hF
    obtain ⟨t2, a1, b1⟩ := kx E ce q u t T'.heap (locs ++ L) e1.symm (by rw [← e2]; exact X'.warmed.alike) hp hb k1 k2 k3 (by rw [e1]; exact hce) hcv hcl T' rfl X'
    exact ⟨t2, st.trans a1, b1⟩
theorem vx_callf {S SX : Type} {post : UInt32 → S → Prop} {px : SX → Prop} {B : S → State → Prop} {BX : String → SX → State → Prop} {AX : Nat → Prop} (hr : vx_Run p l e R s m args below meth c H locs cells slots mc ms (F0 m pc ls st0) rest (va_Qf post B A1 a) (vx_X px BX AX) free) (hS : va_S A0 H0 H locs) (hA : ∀ q, q < H.size → A1 q → A0 q) (hf : ∀ q, free q → A0 q) (hAX : ∀ q, q < H.size → AX q → A0 q)
    (kx : ∀ (E : String) (ce : Cell) (q9 : Addr) (u : SX) (t : State) (H1 : Heap) (locs1 : List Loc), t.heap = H1 → s.vm.Alike t.vm → px u → BX E u t → H.size ≤ H1.size → (∀ q : Nat, q < H.size → ¬ AX q → H1[q]? = H[q]?) → va_S A0 H0 H1 locs1 → H1[q9]? = some ce → ce.vm = .none → s.vm.findClass E = some ce.cls → vx_W p l e R s m args below meth c H1 locs1 (cells + mc) (slots + ms) Q (F0 m pc ls rest) q9)
    (kk : ∀ (r : UInt32) (u : S) (t : State) (H1 : Heap) (locs1 : List Loc), t.heap = H1 → s.vm.Alike t.vm → post r u → B u t → H.size ≤ H1.size → (∀ q : Nat, q < H.size → ¬ A1 q → H1[q]? = H[q]?) → va_S A0 H0 H1 locs1 → W p l e R s m args below meth c H1 locs1 (cells + mc) (slots + ms) Q (F0 m (pc + 3) ls (.float r :: rest))) : W p l e R s m args below meth c H locs cells slots Q (F0 m pc ls st0) := by
  intro T hT X
  rcases hr T hT X with ⟨v, st₀, t, T', L, h0, X', hL, e1, e2, ⟨⟨r, u, hv, hp, hb⟩, hF⟩, st⟩ | ⟨q, st₀, t, T', L, E, ce, h0, X', hL, e1, e2, ⟨u, hp, hb, hF⟩, hce, hcv, hcl, st⟩
  · cases hv
    obtain ⟨k1, k2, k3⟩ := vx_keep h0 e1 hS hA hf hL hF
    obtain ⟨t2, a1, b1⟩ := kk r u t T'.heap (locs ++ L) e1.symm (by rw [← e2]; exact X'.warmed.alike) hp hb k1 k2 k3 T' rfl X'
    exact ⟨t2, st t2 a1, b1⟩
  · obtain ⟨k1, k2, k3⟩ := vx_keep h0 e1 hS hAX hf hL hF
    obtain ⟨t2, a1, b1⟩ := kx E ce q u t T'.heap (locs ++ L) e1.symm (by rw [← e2]; exact X'.warmed.alike) hp hb k1 k2 k3 (by rw [e1]; exact hce) hcv hcl T' rfl X'
    exact ⟨t2, st.trans a1, b1⟩
theorem vx_calld {S SX : Type} {post : UInt64 → S → Prop} {px : SX → Prop} {B : S → State → Prop} {BX : String → SX → State → Prop} {AX : Nat → Prop} (hr : vx_Run p l e R s m args below meth c H locs cells slots mc ms (F0 m pc ls st0) rest (va_Qd post B A1 a) (vx_X px BX AX) free) (hS : va_S A0 H0 H locs) (hA : ∀ q, q < H.size → A1 q → A0 q) (hf : ∀ q, free q → A0 q) (hAX : ∀ q, q < H.size → AX q → A0 q)
    (kx : ∀ (E : String) (ce : Cell) (q9 : Addr) (u : SX) (t : State) (H1 : Heap) (locs1 : List Loc), t.heap = H1 → s.vm.Alike t.vm → px u → BX E u t → H.size ≤ H1.size → (∀ q : Nat, q < H.size → ¬ AX q → H1[q]? = H[q]?) → va_S A0 H0 H1 locs1 → H1[q9]? = some ce → ce.vm = .none → s.vm.findClass E = some ce.cls → vx_W p l e R s m args below meth c H1 locs1 (cells + mc) (slots + ms) Q (F0 m pc ls rest) q9)
    (kk : ∀ (r : UInt64) (u : S) (t : State) (H1 : Heap) (locs1 : List Loc), t.heap = H1 → s.vm.Alike t.vm → post r u → B u t → H.size ≤ H1.size → (∀ q : Nat, q < H.size → ¬ A1 q → H1[q]? = H[q]?) → va_S A0 H0 H1 locs1 → W p l e R s m args below meth c H1 locs1 (cells + mc) (slots + ms) Q (F0 m (pc + 3) ls (.double r :: rest))) : W p l e R s m args below meth c H locs cells slots Q (F0 m pc ls st0) := by
  intro T hT X
  rcases hr T hT X with ⟨v, st₀, t, T', L, h0, X', hL, e1, e2, ⟨⟨r, u, hv, hp, hb⟩, hF⟩, st⟩ | ⟨q, st₀, t, T', L, E, ce, h0, X', hL, e1, e2, ⟨u, hp, hb, hF⟩, hce, hcv, hcl, st⟩
  · cases hv
    obtain ⟨k1, k2, k3⟩ := vx_keep h0 e1 hS hA hf hL hF
    obtain ⟨t2, a1, b1⟩ := kk r u t T'.heap (locs ++ L) e1.symm (by rw [← e2]; exact X'.warmed.alike) hp hb k1 k2 k3 T' rfl X'
    exact ⟨t2, st t2 a1, b1⟩
  · obtain ⟨k1, k2, k3⟩ := vx_keep h0 e1 hS hAX hf hL hF
    obtain ⟨t2, a1, b1⟩ := kx E ce q u t T'.heap (locs ++ L) e1.symm (by rw [← e2]; exact X'.warmed.alike) hp hb k1 k2 k3 (by rw [e1]; exact hce) hcv hcl T' rfl X'
    exact ⟨t2, st.trans a1, b1⟩
theorem vx_callv {S SX : Type} {post : S → Prop} {px : SX → Prop} {B : S → State → Prop} {BX : String → SX → State → Prop} {AX : Nat → Prop} (hr : vx_Run p l e R s m args below meth c H locs cells slots mc ms (F0 m pc ls st0) rest (va_Qv post B A1 a) (vx_X px BX AX) free) (hS : va_S A0 H0 H locs) (hA : ∀ q, q < H.size → A1 q → A0 q) (hf : ∀ q, free q → A0 q) (hAX : ∀ q, q < H.size → AX q → A0 q)
    (kx : ∀ (E : String) (ce : Cell) (q9 : Addr) (u : SX) (t : State) (H1 : Heap) (locs1 : List Loc), t.heap = H1 → s.vm.Alike t.vm → px u → BX E u t → H.size ≤ H1.size → (∀ q : Nat, q < H.size → ¬ AX q → H1[q]? = H[q]?) → va_S A0 H0 H1 locs1 → H1[q9]? = some ce → ce.vm = .none → s.vm.findClass E = some ce.cls → vx_W p l e R s m args below meth c H1 locs1 (cells + mc) (slots + ms) Q (F0 m pc ls rest) q9)
    (kk : ∀ (u : S) (t : State) (H1 : Heap) (locs1 : List Loc), t.heap = H1 → s.vm.Alike t.vm → post u → B u t → H.size ≤ H1.size → (∀ q : Nat, q < H.size → ¬ A1 q → H1[q]? = H[q]?) → va_S A0 H0 H1 locs1 → W p l e R s m args below meth c H1 locs1 (cells + mc) (slots + ms) Q (F0 m (pc + 3) ls (rest))) : W p l e R s m args below meth c H locs cells slots Q (F0 m pc ls st0) := by
  intro T hT X
  rcases hr T hT X with ⟨v, st₀, t, T', L, h0, X', hL, e1, e2, ⟨⟨u, hv, hp, hb⟩, hF⟩, st⟩ | ⟨q, st₀, t, T', L, E, ce, h0, X', hL, e1, e2, ⟨u, hp, hb, hF⟩, hce, hcv, hcl, st⟩
  · cases hv
    obtain ⟨k1, k2, k3⟩ := vx_keep h0 e1 hS hA hf hL hF
    obtain ⟨t2, a1, b1⟩ := kk u t T'.heap (locs ++ L) e1.symm (by rw [← e2]; exact X'.warmed.alike) hp hb k1 k2 k3 T' rfl X'
    exact ⟨t2, st t2 a1, b1⟩
  · obtain ⟨k1, k2, k3⟩ := vx_keep h0 e1 hS hAX hf hL hF
    obtain ⟨t2, a1, b1⟩ := kx E ce q u t T'.heap (locs ++ L) e1.symm (by rw [← e2]; exact X'.warmed.alike) hp hb k1 k2 k3 (by rw [e1]; exact hce) hcv hcl T' rfl X'
    exact ⟨t2, st.trans a1, b1⟩
/-- caught by the row x of this method's table; the rows ahead don't take it -/
theorem vx_catch {own name : String} {E : String} {ce : Cell} {q : Addr} (hown : s.vm.findClass own = some m.cls) (pre : List ExceptionTableEntry) (x : ExceptionTableEntry) (suf : List ExceptionTableEntry) (hsplit : c.exceptionTable.toList = pre ++ x :: suf)
    (hpass : ∀ z ∈ pre, covers z pc = false ∨ (z.catchType ≠ 0 ∧ ∃ nm : String, (Cond.classLink own z.catchType nm).before args s = true ∧ va_Nc E nm s)) (hx : covers x pc = true) (h0 : x.catchType ≠ 0)
    (hlink : (Cond.classLink own x.catchType name).before args s = true) (hcast : (Cond.castable E name).before args s = true) (hcell : H[q]? = some ce) (hv : ce.vm = .none) (hcl : s.vm.findClass E = some ce.cls)
    (kk : W p l e R s m args below meth c H locs cells slots Q (F0 m x.handlerPc ls [.ref q])) : vx_W p l e R s m args below meth c H locs cells slots Q (F0 m pc ls rest) q := by
  intro T hT X
  have hpl : e.platform.magicAccessors = ({} : Platform).magicAccessors := by rw [X.admits.platform]
  obtain ⟨c3, c4, hc3, hc4, hasg⟩ := Cond.castable_spec hcast
  cases Option.some.inj (hc3.symm.trans hcl)
  obtain ⟨c5, hc5, hcl5⟩ := Cond.classLink_spec hown hlink e.platform hpl
  cases Option.some.inj (hc4.symm.trans hc5)
  obtain ⟨vm', X', st⟩ := X.thenCaughtThrough q (g := F0 m pc ls rest) rfl (Steps.refl _) (by rw [hT]; exact hcell) (by rw [hv]; rfl) (by obtain ⟨k9, h9, -⟩ := Vm.findClass_spec hcl; exact ⟨k9, h9⟩) pre x suf hsplit
    (fun z hz => by
      rcases hpass z hz with h | ⟨hz0, nm, hl1, hn1⟩
      · exact Or.inl h
      · obtain ⟨c6, hc6, hcl6⟩ := Cond.classLink_spec hown hl1 e.platform hpl
        obtain ⟨a8, b8, h1, h2, h3⟩ := hn1
        cases Option.some.inj (h1.symm.trans hcl)
        cases Option.some.inj (h2.symm.trans hc6)
        exact Or.inr ⟨hz0, _, hcl6, h3⟩) hx (Or.inr ⟨h0, c4, hcl5, hasg⟩)
  obtain ⟨t, a1, b1⟩ := kk (T.setVm vm') hT X'
  exact ⟨t, st.trans a1, b1⟩
end Rows
section Ends
variable {p : Program} {l : Launch} {e : Env} {R : Room} {s : State} {m : MethodId} {args : Array Value} {below : List Frame} {meth : Method} {c : Code} {H : Heap} {locs : List Loc} {cells slots : Nat} {Q : State → Prop}
variable {mc ms : Nat} {free : Addr → Prop} {A0 A1 : Nat → Prop} {H0 : Heap} {a : Array Value} {ls : Array Slot} {st0 rest : List Value}
variable {Qc : Array Value → State → Outcome → State → Prop} {XC : String → State → State → Prop}
/-- what a body that may throw owes at its end -/
def vx_MQ (below : List Frame) (Qc : Array Value → State → Outcome → State → Prop) (XC : String → State → State → Prop) (a : Array Value) (s : State) (mc ms : Nat) (free : Addr → Prop) : State → Prop := fun t =>
  ∃ o, t.status = .running ∧ Ended t below o ∧ vx_Q Qc XC mc ms free a s o t
theorem vx_ret {g : JFrame} {mc ms : Nat} (k : W p l e R s m args below meth c H locs cells slots (MQ below Qc args s mc ms free) g) : W p l e R s m args below meth c H locs cells slots (vx_MQ below Qc XC args s mc ms free) g := by
  intro T hT X
  obtain ⟨t, a1, o, b1, b2, b3, b4⟩ := k T hT X
  exact ⟨t, a1, o, b1, b2, Or.inl ⟨b3, b4⟩⟩
/-- not caught here: it goes on to the caller -/
theorem vx_widen {g : JFrame} {q : Addr} {k n : Nat} (h1 : cells ≤ k) (h2 : slots ≤ n) (kk : vx_W p l e R s m args below meth c H locs k n Q g q) : vx_W p l e R s m args below meth c H locs cells slots Q g q := fun T hT X => kk T hT (stand_widen X h1 h2)
theorem vx_out {pc : Nat} {E : String} {ce : Cell} {q : Addr} {mc ms : Nat} (hout : ∀ x ∈ c.exceptionTable.toList, covers x pc = false) (hlocks : meth.locks = false) (hcell : H[q]? = some ce) (hv : ce.vm = .none) (hcl : s.vm.findClass E = some ce.cls)
    (hx : ∀ t : State, t.heap = H → s.vm.Alike t.vm → XC E s t) (hf : ∀ z ∈ locs, free z.base) (hc : cells ≤ mc) (hs : slots ≤ ms) :
    vx_W p l e R s m args below meth c H locs cells slots (vx_MQ below Qc XC args s mc ms free) (F0 m pc ls rest) q := by
  intro T hT X
  obtain ⟨st1, hrun, hend, hW, hsm⟩ := X.leaveThrown q (g := F0 m pc ls rest) rfl rfl rfl hout hlocks
  have hcell9 : (T.setFrames (.throwing q :: below)).heap[q]? = some ce := by
    show T.heap[q]? = some ce
    rw [hT]; exact hcell
  exact ⟨_, st1, .threw q, hrun, hend, Or.inr ⟨q, rfl, E, ce, locs, hx _ hT hW.alike, hcell9, hv, hcl, hW, hsm.mono hc hs, hf⟩⟩
theorem vx_frame {U : State} {k n : Nat} (h : s.sameButNew ({ U with vm := s.vm } : State) locs k n) : s.heap.size ≤ U.heap.size ∧ ∀ q : Nat, q < s.heap.size → (∀ z ∈ locs, z.base ≠ q) → U.heap[q]? = s.heap[q]? := by
  obtain ⟨-, h2, -, -, -, h6⟩ := h
  refine ⟨h2, fun q hq hz => ?_⟩
  obtain ⟨c9, e1, e2, e3, e4⟩ := h6 q _ (Array.getElem?_eq_getElem hq)
  have hs : c9.slots = (s.heap[q]).slots := Array.ext_getElem? fun i => e4 i fun hm => hz _ hm rfl
  have h9 : c9 = s.heap[q] := by
    rw [hs] at e2
    exact e2
  have e5 : U.heap[q]? = some c9 := e1
  rw [e5, h9, Array.getElem?_eq_getElem hq]
/-- the words of a throw but the four that speak of the heap -/
def vx_no (w : Cond) : Bool := decide (w ≠ .isRef (.static Bundle.tN "UNASSIGNED_STACK" Bundle.steD)) && decide (w ≠ .isRef (.static Bundle.tN "SUPPRESSED_SENTINEL" Bundle.listD)) && decide (w ≠ .laysStatic Bundle.tN "UNASSIGNED_STACK" Bundle.steD) && decide (w ≠ .laysStatic Bundle.tN "SUPPRESSED_SENTINEL" Bundle.listD)
def vx_at0 (own : String) (ic : Nat) (X : String) (names : List String) : List Cond := (Bundle.ownAtoms0 own ic X names).filter vx_no
def vx_atS (own : String) (ic : Nat) (X : String) (names : List String) : List Cond := (Bundle.ownAtoms own ic X names).filter vx_no
/-- a word that the tables alone decide, or a good one -/
def vx_ot (w : Cond) : Bool := w.onTables || goodWord w
theorem vx_ot_at {args a' : Array Value} {s U : State} {w : Cond} (hW : s.WarmedH U.vm) (hvm : s.vm = U.vm) (hg : vx_ot w = true) (h : w.before args s = true) : w.before a' U = true := by
  simp only [vx_ot, Bool.or_eq_true] at hg
  rcases hg with hg | hg
  · exact va_tabs hg hvm h
  · exact word_at hW (good_of_word hg) h
/-- a list's words: the good ones out of the method's own list, the others by premises of their own -/
theorem vx_hat {args : Array Value} {s : State} {L B : List Cond} (h1 : ∀ w ∈ L.filter goodWord, w.before args s = true) (h2 : ∀ w ∈ L.filter (fun w => !goodWord w), w ∈ B) (h3 : ∀ w ∈ B, w.before args s = true) : ∀ w ∈ L, w.before args s = true := by
  intro w hw
  by_cases g : goodWord w = true
  · exact h1 w (List.mem_filter.mpr ⟨hw, g⟩)
  · refine h3 w (h2 w (List.mem_filter.mpr ⟨hw, ?_⟩))
    show (!goodWord w) = true
    cases hgw : goodWord w
    · rfl
    · exact absurd hgw g
theorem vx_c {args : Array Value} {s : State} {w : Cond} {B : List Cond} (h : w.before args s = true) (t : ∀ w ∈ B, w.before args s = true) : ∀ w' ∈ w :: B, w'.before args s = true := fun w' h' => (List.mem_cons.mp h').elim (fun e => by rw [e]; exact h) (t w')
theorem vx_n {args : Array Value} {s : State} : ∀ w ∈ ([] : List Cond), w.before args s = true := fun _ h => nomatch h
theorem vx_own {args : Array Value} {s : State} {L : List Cond} (h1 : ∀ w ∈ L.filter vx_no, w.before args s = true)
    (hU : (Cond.isRef (.static Bundle.tN "UNASSIGNED_STACK" Bundle.steD)).before args s = true) (hN : (Cond.isRef (.static Bundle.tN "SUPPRESSED_SENTINEL" Bundle.listD)).before args s = true)
    (lU : (Cond.laysStatic Bundle.tN "UNASSIGNED_STACK" Bundle.steD).before args s = true) (lN : (Cond.laysStatic Bundle.tN "SUPPRESSED_SENTINEL" Bundle.listD).before args s = true) : ∀ w ∈ L, w.before args s = true := by
  intro w hw
  by_cases e1 : w = .isRef (.static Bundle.tN "UNASSIGNED_STACK" Bundle.steD)
  · rw [e1]; exact hU
  · by_cases e2 : w = .isRef (.static Bundle.tN "SUPPRESSED_SENTINEL" Bundle.listD)
    · rw [e2]; exact hN
    · by_cases e3 : w = .laysStatic Bundle.tN "UNASSIGNED_STACK" Bundle.steD
      · rw [e3]; exact lU
      · by_cases e4 : w = .laysStatic Bundle.tN "SUPPRESSED_SENTINEL" Bundle.listD
        · rw [e4]; exact lN
        · exact h1 w (List.mem_filter.mpr ⟨hw, by unfold vx_no; rw [decide_eq_true e1, decide_eq_true e2, decide_eq_true e3, decide_eq_true e4]; rfl⟩)
/-- where a static field lies, its class's statics cell in H -/
def vx_L (C n d : String) (A : Nat → Prop) (U : State) (H : Heap) : Prop := ∃ (c : ClassId) (k : Class) (i : Nat) (f : Field) (a : Nat) (cell : Cell), U.vm.findClass C = some c ∧ U.fieldFound? C n d = some (c, k, i, f) ∧ f.isStatic = true ∧ k.statics = some a ∧ H[a]? = some cell ∧ cell.vm.isStatics = true ∧ cell.cls = c ∧ f.slot < cell.slots.size ∧ k.staticTypes[f.slot]? = some f.type ∧ ¬ A a
theorem vx_L.moved {C n d : String} {A : Nat → Prop} {u U : State} {H : Heap} (hvm : u.vm.Alike U.vm) (h : vx_L C n d A u H) : vx_L C n d A U H := by
  obtain ⟨c, k, i, f, a, cell, h1, h2, h3, h4, h5, h6, h7, h8, h9, h10⟩ := h
  obtain ⟨k', hi', he⟩ := State.fieldFound?_setVm hvm h2
  exact ⟨c, k', i, f, a, cell, by rw [hvm.findClass]; exact h1, hi', h3, by rw [he]; exact h4, h5, h6, h7, h8, by rw [he]; exact h9, h10⟩
theorem vx_L.kept {C n d : String} {A : Nat → Prop} {U : State} {H H1 : Heap} (h : vx_L C n d A U H) (hq : ∀ a : Nat, a < H.size → ¬ A a → H1[a]? = H[a]?) : vx_L C n d A U H1 := by
  obtain ⟨c, k, i, f, a, cell, h1, h2, h3, h4, h5, h6, h7, h8, h9, h10⟩ := h
  exact ⟨c, k, i, f, a, cell, h1, h2, h3, h4, by rw [hq a (Array.getElem?_eq_some_iff.mp h5).1 h10]; exact h5, h6, h7, h8, h9, h10⟩
theorem vx_L.narrow {C n d : String} {A B : Nat → Prop} {U : State} {H : Heap} (h : vx_L C n d A U H) (hAB : ∀ q, B q → A q) : vx_L C n d B U H := by
  obtain ⟨c, k, i, f, a, cell, h1, h2, h3, h4, h5, h6, h7, h8, h9, h10⟩ := h
  exact ⟨c, k, i, f, a, cell, h1, h2, h3, h4, h5, h6, h7, h8, h9, fun z => h10 (hAB _ z)⟩
theorem vx_L.word {C n d : String} {A : Nat → Prop} {s : State} {args : Array Value} (h : vx_L C n d A s s.heap) : (Cond.laysStatic C n d).before args s = true := by
  obtain ⟨c, k, i, f, a, cell, h1, h2, h3, h4, h5, h6, h7, h8, h9, -⟩ := h
  show (Cond.laysStatic C n d).holds args s none s [] = true
  exact Cond.laysStatic_of h1 h2 h3 h4 h5 h6 h7 h8 h9
/-- .. and what it holds: null or some reference -/
def vx_Zq (C n d : String) (A : Nat → Prop) (U : State) (H : Heap) : Prop := va_Zq C n d A U H ∧ vx_L C n d A U H
theorem vx_Zq.moved {C n d : String} {A : Nat → Prop} {u U : State} {H : Heap} (hvm : u.vm.Alike U.vm) (h : vx_Zq C n d A u H) : vx_Zq C n d A U H := ⟨va_Zq.moved hvm h.1, vx_L.moved hvm h.2⟩
theorem vx_Zq.kept {C n d : String} {A : Nat → Prop} {U : State} {H H1 : Heap} (h : vx_Zq C n d A U H) (hq : ∀ a : Nat, a < H.size → ¬ A a → H1[a]? = H[a]?) : vx_Zq C n d A U H1 := ⟨va_Zq.kept h.1 hq, vx_L.kept h.2 hq⟩
theorem vx_Zq.narrow {C n d : String} {A B : Nat → Prop} {U : State} {H : Heap} (h : vx_Zq C n d A U H) (hAB : ∀ q, B q → A q) : vx_Zq C n d B U H := ⟨va_Zq.narrow h.1 hAB, vx_L.narrow h.2 hAB⟩
theorem vx_Zqof {args : Array Value} {s : State} {C n d : String} {A : Nat → Prop} (hl : (Cond.laysStatic C n d).before args s = true) (hini : (Cond.initialized C).before args s = true) (h : (Cond.isRef (.static C n d)).before args s = true) (hA : ∀ a : Nat, a < s.heap.size → ¬ A a) : vx_Zq C n d A s s.heap := by
  refine ⟨va_Zqof hl hini h hA, ?_⟩
  obtain ⟨c, k, i, f, a, cell, h1, h2, h3, h4, h5, h6, h7, h8, h9⟩ := Cond.laysStatic_spec hl
  exact ⟨c, k, i, f, a, cell, h1, h2, h3, h4, h5, h6, h7, h8, h9, hA a (Array.getElem?_eq_some_iff.mp h5).1⟩
theorem vx_isRef {C n d : String} {v : Value} {A : Nat → Prop} {s : State} {args : Array Value} (h : va_Z C n d v A s s.heap) (hv : v.isRef = true) : (Cond.isRef (.static C n d)).before args s = true := by
  obtain ⟨cf, kf, fi, f, a, cell, h1, h2, h3, h4, h5, h6, h7, -⟩ := h
  have he : (Term.static C n d).eval args s none [] s = some v := by
    simp [Term.eval, State.fieldNamed?, h1, h2, h4, h5, h6, h7]
  simp only [Cond.before, Cond.holds, Cond.value, he]
  cases v <;> simp_all [Value.isRef]
theorem vx_isRefq {C n d : String} {A : Nat → Prop} {s : State} {args : Array Value} (h : va_Zq C n d A s s.heap) : (Cond.isRef (.static C n d)).before args s = true := by
  rcases h with h | ⟨t, h⟩
  · exact vx_isRef h rfl
  · exact vx_isRef h rfl
/-- the same frame, seen from here: as if the method were called anew in this heap -/
theorem vx_rebase {T : State} (X : Stand p l e R s m args below meth c T locs cells slots) {R' : Room} (hf : R'.frames ≤ R.frames) (hl : R'.locals ≤ R.locals) (hc : cells + R'.cells ≤ R.cells) (hs : slots + R'.slots ≤ R.slots) :
    Stand p l e R' ((T.setVm s.vm).setFrames (.invoking m args :: below)) m args below meth c T [] 0 0 := by
  have htop : (T.setVm s.vm).topJava?.isSome := X.here.top
  have hF : ((T.setVm s.vm).setFrames (.invoking m args :: below)).frames = .invoking m args :: below := State.frames_setFrames _ (State.cur_lt_of_top htop)
  obtain ⟨g₀, hg0⟩ := Option.isSome_iff_exists.mp htop
  obtain ⟨r, hr⟩ := State.topJava?_eq_some.mp hg0
  have hl9 : e.platform.stackLimits (T.setVm s.vm).me = e.platform.stackLimits s.me := X.limits
  have hb9 : (T.setVm s.vm).me.stackBytes = s.me.stackBytes := X.bytes
  refine ⟨X.admits, X.cas, X.clock, hF, ?_, X.hears, X.method, X.code, X.here, X.tail, X.warmed, ?_, ?_, ?_⟩
  · have h := X.room
    have hU : ((T.setVm s.vm).setFrames (.invoking m args :: below)).localsInUse = s.localsInUse := by
      rw [State.localsInUse_invoking hF (meth := meth) (c := c) X.method X.code, State.localsInUse_invoking X.frames X.method X.code]
    simp only [State.hasRoom, Bool.and_eq_true, decide_eq_true_eq] at h ⊢
    obtain ⟨⟨⟨⟨h1, h2, h3, h4, h5, h6⟩, h7⟩, h8⟩, h9⟩ := h
    rw [X.frames, List.length_cons] at h2 h3
    have q1 := X.heapSize
    have q2 := X.used
    simp only [hF, hU, List.length_cons, State.stackLimits_setFrames, State.stackBytes_setFrames, hl9, hb9]
    refine ⟨⟨⟨⟨by omega, by omega, by omega, by omega, by omega, h6⟩, ?_⟩, ?_⟩, X.book⟩
    · show T.heap.size + R'.cells ≤ e.platform.maxCells
      omega
    · show T.slotsUsed + R'.slots ≤ e.platform.maxSlots
      omega
  · rw [State.stackLimits_setFrames]; rfl
  · rw [State.stackBytes_setFrames]; rfl
  · refine ⟨?_, Nat.le_refl _, Nat.le_refl _, ?_, ?_, fun a c9 h9 => ⟨c9, h9, rfl, rfl, fun _ _ => rfl⟩⟩
    · obtain ⟨t, ht, -⟩ := State.frames_cons hr
      show T.setVm s.vm = { ((T.setVm s.vm).setFrames (.invoking m args :: below)).setFrames (T.setVm s.vm).frames with heap := T.heap, slotsUsed := T.slotsUsed }
      rw [State.setFrames_setFrames, State.setFrames_self ht]
      rfl
    · show T.slotsUsed = T.slotsUsed + ((T.heap.toList.drop T.heap.size).map (·.slots.size)).sum
      rw [List.drop_eq_nil_of_le (Nat.le_of_eq Array.length_toList)]
      rfl
    · show ((T.heap.toList.drop T.heap.size).map (·.slots.size)).sum ≤ 0
      rw [List.drop_eq_nil_of_le (Nat.le_of_eq Array.length_toList)]
      exact Nat.le_refl _
/-- 'throw new E()': new; dup; invokespecial; athrow -/
theorem vx_throw0 {cc : ByteArray} {pc : Nat} (hexec : p.tables.exec = Jvm.exec) (hb : c.code = cc) (hl : l.stackTraces = false) {own cls : String} {names : List String} {ik ic mc ms : Nat} {A : Nat → Prop}
    (hown : s.vm.findClass own = some m.cls) (hcls : Bundle.fit cls = true) (hnames : ∀ n ∈ names, Bundle.fit n = true)
    (hk : (Cond.classLink own ik cls).before args s = true) (hini : (Cond.initialized cls).before args s = true) (hat : ∀ w ∈ vx_at0 own ic cls names, w.before args s = true)
    (hgood : ∀ w ∈ Cond.classLink own ik cls :: Cond.initialized cls :: vx_at0 own ic cls names, vx_ot w = true)
    (hU : vx_Zq Bundle.tN "UNASSIGNED_STACK" Bundle.steD A s s.heap) (hN : vx_Zq Bundle.tN "SUPPRESSED_SENTINEL" Bundle.listD A s s.heap) (hS : va_S A s.heap H locs) (hsize : ls.size = c.maxLocals)
    (d0 : decode cc pc = .ok (.new ik, 3)) (d3 : decode cc (pc + 3) = .ok (.dup, 1)) (d4 : decode cc (pc + 4) = .ok (.invokespecial ic, 3)) (d7 : decode cc (pc + 7) = .ok (.athrow, 1))
    (hout : ∀ x ∈ c.exceptionTable.toList, covers x (pc + 7) = false)
    (hRframes : names.length + 3 < R.frames) (hRlocals : (rest.map fun v => v.category).sum + (13 * (names.length + 1) + 42) ≤ R.locals) (hRcells : cells + 1 ≤ R.cells) (hRslots : slots + 6 ≤ R.slots) (hlocks : meth.locks = false)
    (hx : ∀ t : State, s.vm.Alike t.vm → H.size ≤ t.heap.size → (∀ q : Nat, q < H.size → t.heap[q]? = H[q]?) → XC cls s t)
    (hf : ∀ z ∈ locs, free z.base) (hc : cells + 1 ≤ mc) (hs : slots + 6 ≤ ms) :
    W p l e R s m args below meth c H locs cells slots (vx_MQ below Qc XC args s mc ms free) (F0 m pc ls rest) := by
  intro T hT X
  have htr : e.platform.stackTraces = false := (show e.platform.stackTraces = l.stackTraces by rw [X.admits.platform]).trans hl
  have Y := vx_rebase X (R' := { frames := R.frames, locals := R.locals, cells := 1, slots := 6 }) (Nat.le_refl _) (Nat.le_refl _) hRcells hRslots
  obtain ⟨s', hA⟩ : ∃ z, z = (T.setVm s.vm).setFrames (.invoking m args :: below) := ⟨_, rfl⟩
  rw [← hA] at Y
  have hvm : s'.vm = s.vm := by rw [hA]; rfl
  have hhp : s'.heap = H := by rw [hA]; exact hT
  have hW0 : s.WarmedH s'.vm := by rw [hvm]; exact State.WarmedH.refl s
  have hat' : ∀ w ∈ vx_at0 own ic cls names, w.before args s' = true := fun w hw => vx_ot_at hW0 hvm.symm (hgood w (List.mem_cons_of_mem _ (List.mem_cons_of_mem _ hw))) (hat w hw)
  have hk' : (Cond.classLink own ik cls).before args s' = true := vx_ot_at hW0 hvm.symm (hgood _ List.mem_cons_self) hk
  have hini' : (Cond.initialized cls).before args s' = true := vx_ot_at hW0 hvm.symm (hgood _ (List.mem_cons_of_mem _ List.mem_cons_self)) hini
  have hU' : vx_Zq Bundle.tN "UNASSIGNED_STACK" Bundle.steD A s' s'.heap := by rw [hhp]; exact vx_Zq.moved hW0.alike (hU.kept hS.2.1)
  have hN' : vx_Zq Bundle.tN "SUPPRESSED_SENTINEL" Bundle.listD A s' s'.heap := by rw [hhp]; exact vx_Zq.moved hW0.alike (hN.kept hS.2.1)
  have h : ∀ w ∈ Bundle.ownAtoms0 own ic cls names, w.before args s' = true := vx_own hat' (vx_isRefq hU'.1) (vx_isRefq hN'.1) hU'.2.word hN'.2.word
  have hown' : s'.vm.findClass own = some m.cls := by rw [hvm]; exact hown
  have hins : (Cond.instantiable cls 6).before args s' = true := h _ (by simp [Bundle.ownAtoms0])
  obtain ⟨vm₁, cX, kX, hfX, hkX, -, -, X₁, st1⟩ := Y.newCold hexec (own := own) (C := cls) (index := ik) (n := 6) hown' hk' hins hini'
    (g := F0 m pc ls rest) rfl (by rw [hb]; exact d0) (Nat.le_refl _) (Nat.le_refl _)
  generalize hT1 : (T.setVm vm₁).pushCell { cls := cX, slots := kX.instanceTypes.map defaultValue, vm := .none } = T1 at X₁ st1
  have hcat : (Value.ref T.heap.size).category = 1 := rfl
  have hcellA : T1.heap[T.heap.size]? = some (freshCell cX kX) := by rw [← hT1]; exact State.heap_pushCell_size _ _
  have d3' : decode c.code (pc + 3) = .ok (.dup, 1) := by rw [hb]; exact d3
  obtain ⟨U, hsteps, hrun, hend, hW, hsame, ce, hce, hO⟩ := X₁.ctorThrow0 hexec htr (own := own) (cls := cls) (names := names) (ic := ic) hown' hcls hnames h (fun x hx => nomatch hx) hfX hkX hcellA (by rw [hhp, hT]; exact Nat.le_refl _)
    (g := { method := m, pc := pc + 4, locals := ls, stack := .ref T.heap.size :: .ref T.heap.size :: rest, locked := none }) rfl hsize rfl rfl (rest := rest) rfl
    (by rw [hb]; exact d4) (by rw [hb]; exact d7) hout hRframes (by simp only [List.map_cons, List.sum_cons, hcat]; omega) hlocks
  obtain ⟨f1, f2⟩ := vx_frame hsame
  rw [hhp] at f1 f2
  have hWs : s.WarmedH U.vm := State.WarmedH.trans hW0 hW
  have hcl : s.vm.findClass cls = some ce.cls := by
    have h9 := hO.cls
    rw [hvm] at h9
    exact h9
  have hall : s.sameButNew ({ U with vm := s.vm } : State) locs mc ms := by
    subst hA
    obtain ⟨e1, e2⟩ := hsame
    rw [State.setFrames_setFrames] at e1
    have h2 : (T.setVm s.vm).sameButNew ({ U with vm := s.vm } : State) [] (0 + 1) (0 + 6) := ⟨e1, e2⟩
    have h3 := X.same.trans h2
    rw [List.append_nil] at h3
    exact h3.mono hc hs
  refine ⟨U, ?_, .threw T.heap.size, hrun, hend, Or.inr ⟨T.heap.size, rfl, cls, ce, locs, hx U hWs.alike f1 (fun q hq => f2 q hq (fun z hz => nomatch hz)), hce, hO.vm, hcl, hWs, hall, hf⟩⟩
  refine st1 _ ?_
  show Steps p.tables e below (T1.setTop { method := m, pc := pc + 3, locals := ls, stack := .ref T.heap.size :: rest, locked := none }) _
  jvm_step X₁.here [X₁.here.top, hexec, d3', Value.category]
  exact hsteps
/-- 'throw new E("text")': new; dup; ldc; invokespecial; athrow -/
theorem vx_throwS {cc : ByteArray} {pc : Nat} (hexec : p.tables.exec = Jvm.exec) (hb : c.code = cc) (hl : l.stackTraces = false) {own cls text : String} {names : List String} {ik is ic mc ms sa : Nat} {A : Nat → Prop}
    (hown : s.vm.findClass own = some m.cls) (hcls : Bundle.fit cls = true) (hnames : ∀ n ∈ names, Bundle.fit n = true)
    (hk : (Cond.classLink own ik cls).before args s = true) (hini : (Cond.initialized cls).before args s = true) (hstr : vk_R own is text sa s) (hat : ∀ w ∈ vx_atS own ic cls names, w.before args s = true)
    (hgood : ∀ w ∈ Cond.classLink own ik cls :: Cond.initialized cls :: vx_atS own ic cls names, vx_ot w = true)
    (hU : vx_Zq Bundle.tN "UNASSIGNED_STACK" Bundle.steD A s s.heap) (hN : vx_Zq Bundle.tN "SUPPRESSED_SENTINEL" Bundle.listD A s s.heap) (hS : va_S A s.heap H locs) (hsize : ls.size = c.maxLocals)
    (d0 : decode cc pc = .ok (.new ik, 3)) (d3 : decode cc (pc + 3) = .ok (.dup, 1)) (d4 : decode cc (pc + 4) = .ok (.ldc is, 2)) (d6 : decode cc (pc + 6) = .ok (.invokespecial ic, 3)) (d9 : decode cc (pc + 9) = .ok (.athrow, 1))
    (hout : ∀ x ∈ c.exceptionTable.toList, covers x (pc + 9) = false)
    (hRframes : names.length + 3 < R.frames) (hRlocals : (rest.map fun v => v.category).sum + (13 * (names.length + 1) + 43) ≤ R.locals) (hRcells : cells + 1 ≤ R.cells) (hRslots : slots + 6 ≤ R.slots) (hlocks : meth.locks = false)
    (hx : ∀ t : State, s.vm.Alike t.vm → H.size ≤ t.heap.size → (∀ q : Nat, q < H.size → t.heap[q]? = H[q]?) → XC cls s t)
    (hf : ∀ z ∈ locs, free z.base) (hc : cells + 1 ≤ mc) (hs : slots + 6 ≤ ms) :
    W p l e R s m args below meth c H locs cells slots (vx_MQ below Qc XC args s mc ms free) (F0 m pc ls rest) := by
  intro T hT X
  have htr : e.platform.stackTraces = false := (show e.platform.stackTraces = l.stackTraces by rw [X.admits.platform]).trans hl
  have Y := vx_rebase X (R' := { frames := R.frames, locals := R.locals, cells := 1, slots := 6 }) (Nat.le_refl _) (Nat.le_refl _) hRcells hRslots
  obtain ⟨s', hA⟩ : ∃ z, z = (T.setVm s.vm).setFrames (.invoking m args :: below) := ⟨_, rfl⟩
  rw [← hA] at Y
  have hvm : s'.vm = s.vm := by rw [hA]; rfl
  have hhp : s'.heap = H := by rw [hA]; exact hT
  have hW0 : s.WarmedH s'.vm := by rw [hvm]; exact State.WarmedH.refl s
  have hat' : ∀ w ∈ vx_atS own ic cls names, w.before args s' = true := fun w hw => vx_ot_at hW0 hvm.symm (hgood w (List.mem_cons_of_mem _ (List.mem_cons_of_mem _ hw))) (hat w hw)
  have hk' : (Cond.classLink own ik cls).before args s' = true := vx_ot_at hW0 hvm.symm (hgood _ List.mem_cons_self) hk
  have hini' : (Cond.initialized cls).before args s' = true := vx_ot_at hW0 hvm.symm (hgood _ (List.mem_cons_of_mem _ List.mem_cons_self)) hini
  have hU' : vx_Zq Bundle.tN "UNASSIGNED_STACK" Bundle.steD A s' s'.heap := by rw [hhp]; exact vx_Zq.moved hW0.alike (hU.kept hS.2.1)
  have hN' : vx_Zq Bundle.tN "SUPPRESSED_SENTINEL" Bundle.listD A s' s'.heap := by rw [hhp]; exact vx_Zq.moved hW0.alike (hN.kept hS.2.1)
  have h : ∀ w ∈ Bundle.ownAtoms own ic cls names, w.before args s' = true := vx_own hat' (vx_isRefq hU'.1) (vx_isRefq hN'.1) hU'.2.word hN'.2.word
  have hown' : s'.vm.findClass own = some m.cls := by rw [hvm]; exact hown
  have hins : (Cond.instantiable cls 6).before args s' = true := h _ (by simp [Bundle.ownAtoms])
  obtain ⟨vm₁, cX, kX, hfX, hkX, -, -, X₁, st1⟩ := Y.newCold hexec (own := own) (C := cls) (index := ik) (n := 6) hown' hk' hins hini'
    (g := F0 m pc ls rest) rfl (by rw [hb]; exact d0) (Nat.le_refl _) (Nat.le_refl _)
  generalize hT1 : (T.setVm vm₁).pushCell { cls := cX, slots := kX.instanceTypes.map defaultValue, vm := .none } = T1 at X₁ st1
  have hcat : (Value.ref T.heap.size).category = 1 := rfl
  have hcellA : T1.heap[T.heap.size]? = some (freshCell cX kX) := by rw [← hT1]; exact State.heap_pushCell_size _ _
  have d3' : decode c.code (pc + 3) = .ok (.dup, 1) := by rw [hb]; exact d3
  have d4' : decode c.code (pc + 4) = .ok (.ldc is, 2) := by rw [hb]; exact d4
  have hstr' : vk_R own is text sa s' := vk_R.warm hW0 hstr
  obtain ⟨U, hsteps, hrun, hend, hW, hsame, ce, hce, hO⟩ := X₁.ctorThrowS hexec htr (own := own) (cls := cls) (names := names) (ic := ic) hown' hcls hnames h (fun x hx => nomatch hx) hfX hkX hcellA (by rw [hhp, hT]; exact Nat.le_refl _) (msg := .ref sa) rfl
    (g := { method := m, pc := pc + 6, locals := ls, stack := .ref sa :: .ref T.heap.size :: .ref T.heap.size :: rest, locked := none }) rfl hsize rfl rfl (rest := rest) rfl
    (by rw [hb]; exact d6) (by rw [hb]; exact d9) hout hRframes (by simp only [List.map_cons, List.sum_cons, hcat]; omega) hlocks
  obtain ⟨f1, f2⟩ := vx_frame hsame
  rw [hhp] at f1 f2
  have hWs : s.WarmedH U.vm := State.WarmedH.trans hW0 hW
  have hcl : s.vm.findClass cls = some ce.cls := by
    have h9 := hO.cls
    rw [hvm] at h9
    exact h9
  have hall : s.sameButNew ({ U with vm := s.vm } : State) locs mc ms := by
    subst hA
    obtain ⟨e1, e2⟩ := hsame
    rw [State.setFrames_setFrames] at e1
    have h2 : (T.setVm s.vm).sameButNew ({ U with vm := s.vm } : State) [] (0 + 1) (0 + 6) := ⟨e1, e2⟩
    have h3 := X.same.trans h2
    rw [List.append_nil] at h3
    exact h3.mono hc hs
  refine ⟨U, ?_, .threw T.heap.size, hrun, hend, Or.inr ⟨T.heap.size, rfl, cls, ce, locs, hx U hWs.alike f1 (fun q hq => f2 q hq (fun z hz => nomatch hz)), hce, hO.vm, hcl, hWs, hall, hf⟩⟩
  refine st1 _ ?_
  show Steps p.tables e below (T1.setTop { method := m, pc := pc + 3, locals := ls, stack := .ref T.heap.size :: rest, locked := none }) _
  jvm_step X₁.here [X₁.here.top, hexec, d3', Value.category]
  exact X₁.ldcString hexec (own := own) (text := text) (index := is) (a := sa) hown' hstr'.1 hstr'.2
    (g := { method := m, pc := pc + 4, locals := ls, stack := .ref T.heap.size :: .ref T.heap.size :: rest, locked := none }) rfl d4' _ hsteps
/-- 'throw new E("text")', the text by a wide index -/
theorem vx_throwSW {cc : ByteArray} {pc : Nat} (hexec : p.tables.exec = Jvm.exec) (hb : c.code = cc) (hl : l.stackTraces = false) {own cls text : String} {names : List String} {ik is ic mc ms sa : Nat} {A : Nat → Prop}
    (hown : s.vm.findClass own = some m.cls) (hcls : Bundle.fit cls = true) (hnames : ∀ n ∈ names, Bundle.fit n = true)
    (hk : (Cond.classLink own ik cls).before args s = true) (hini : (Cond.initialized cls).before args s = true) (hstr : vk_R own is text sa s) (hat : ∀ w ∈ vx_atS own ic cls names, w.before args s = true)
    (hgood : ∀ w ∈ Cond.classLink own ik cls :: Cond.initialized cls :: vx_atS own ic cls names, vx_ot w = true)
    (hU : vx_Zq Bundle.tN "UNASSIGNED_STACK" Bundle.steD A s s.heap) (hN : vx_Zq Bundle.tN "SUPPRESSED_SENTINEL" Bundle.listD A s s.heap) (hS : va_S A s.heap H locs) (hsize : ls.size = c.maxLocals)
    (d0 : decode cc pc = .ok (.new ik, 3)) (d3 : decode cc (pc + 3) = .ok (.dup, 1)) (d4 : decode cc (pc + 4) = .ok (.ldc_w is, 3)) (d7 : decode cc (pc + 7) = .ok (.invokespecial ic, 3)) (d10 : decode cc (pc + 10) = .ok (.athrow, 1))
    (hout : ∀ x ∈ c.exceptionTable.toList, covers x (pc + 10) = false)
    (hRframes : names.length + 3 < R.frames) (hRlocals : (rest.map fun v => v.category).sum + (13 * (names.length + 1) + 43) ≤ R.locals) (hRcells : cells + 1 ≤ R.cells) (hRslots : slots + 6 ≤ R.slots) (hlocks : meth.locks = false)
    (hx : ∀ t : State, s.vm.Alike t.vm → H.size ≤ t.heap.size → (∀ q : Nat, q < H.size → t.heap[q]? = H[q]?) → XC cls s t)
    (hf : ∀ z ∈ locs, free z.base) (hc : cells + 1 ≤ mc) (hs : slots + 6 ≤ ms) :
    W p l e R s m args below meth c H locs cells slots (vx_MQ below Qc XC args s mc ms free) (F0 m pc ls rest) := by
  intro T hT X
  have htr : e.platform.stackTraces = false := (show e.platform.stackTraces = l.stackTraces by rw [X.admits.platform]).trans hl
  have Y := vx_rebase X (R' := { frames := R.frames, locals := R.locals, cells := 1, slots := 6 }) (Nat.le_refl _) (Nat.le_refl _) hRcells hRslots
  obtain ⟨s', hA⟩ : ∃ z, z = (T.setVm s.vm).setFrames (.invoking m args :: below) := ⟨_, rfl⟩
  rw [← hA] at Y
  have hvm : s'.vm = s.vm := by rw [hA]; rfl
  have hhp : s'.heap = H := by rw [hA]; exact hT
  have hW0 : s.WarmedH s'.vm := by rw [hvm]; exact State.WarmedH.refl s
  have hat' : ∀ w ∈ vx_atS own ic cls names, w.before args s' = true := fun w hw => vx_ot_at hW0 hvm.symm (hgood w (List.mem_cons_of_mem _ (List.mem_cons_of_mem _ hw))) (hat w hw)
  have hk' : (Cond.classLink own ik cls).before args s' = true := vx_ot_at hW0 hvm.symm (hgood _ List.mem_cons_self) hk
  have hini' : (Cond.initialized cls).before args s' = true := vx_ot_at hW0 hvm.symm (hgood _ (List.mem_cons_of_mem _ List.mem_cons_self)) hini
  have hU' : vx_Zq Bundle.tN "UNASSIGNED_STACK" Bundle.steD A s' s'.heap := by rw [hhp]; exact vx_Zq.moved hW0.alike (hU.kept hS.2.1)
  have hN' : vx_Zq Bundle.tN "SUPPRESSED_SENTINEL" Bundle.listD A s' s'.heap := by rw [hhp]; exact vx_Zq.moved hW0.alike (hN.kept hS.2.1)
  have h : ∀ w ∈ Bundle.ownAtoms own ic cls names, w.before args s' = true := vx_own hat' (vx_isRefq hU'.1) (vx_isRefq hN'.1) hU'.2.word hN'.2.word
  have hown' : s'.vm.findClass own = some m.cls := by rw [hvm]; exact hown
  have hins : (Cond.instantiable cls 6).before args s' = true := h _ (by simp [Bundle.ownAtoms])
  obtain ⟨vm₁, cX, kX, hfX, hkX, -, -, X₁, st1⟩ := Y.newCold hexec (own := own) (C := cls) (index := ik) (n := 6) hown' hk' hins hini'
    (g := F0 m pc ls rest) rfl (by rw [hb]; exact d0) (Nat.le_refl _) (Nat.le_refl _)
  generalize hT1 : (T.setVm vm₁).pushCell { cls := cX, slots := kX.instanceTypes.map defaultValue, vm := .none } = T1 at X₁ st1
  have hcat : (Value.ref T.heap.size).category = 1 := rfl
  have hcellA : T1.heap[T.heap.size]? = some (freshCell cX kX) := by rw [← hT1]; exact State.heap_pushCell_size _ _
  have d3' : decode c.code (pc + 3) = .ok (.dup, 1) := by rw [hb]; exact d3
  have d4' : decode c.code (pc + 4) = .ok (.ldc_w is, 3) := by rw [hb]; exact d4
  have hstr' : vk_R own is text sa s' := vk_R.warm hW0 hstr
  obtain ⟨U, hsteps, hrun, hend, hW, hsame, ce, hce, hO⟩ := X₁.ctorThrowS hexec htr (own := own) (cls := cls) (names := names) (ic := ic) hown' hcls hnames h (fun x hx => nomatch hx) hfX hkX hcellA (by rw [hhp, hT]; exact Nat.le_refl _) (msg := .ref sa) rfl
    (g := { method := m, pc := pc + 7, locals := ls, stack := .ref sa :: .ref T.heap.size :: .ref T.heap.size :: rest, locked := none }) rfl hsize rfl rfl (rest := rest) rfl
    (by rw [hb]; exact d7) (by rw [hb]; exact d10) hout hRframes (by simp only [List.map_cons, List.sum_cons, hcat]; omega) hlocks
  obtain ⟨f1, f2⟩ := vx_frame hsame
  rw [hhp] at f1 f2
  have hWs : s.WarmedH U.vm := State.WarmedH.trans hW0 hW
  have hcl : s.vm.findClass cls = some ce.cls := by
    have h9 := hO.cls
    rw [hvm] at h9
    exact h9
  have hall : s.sameButNew ({ U with vm := s.vm } : State) locs mc ms := by
    subst hA
    obtain ⟨e1, e2⟩ := hsame
    rw [State.setFrames_setFrames] at e1
    have h2 : (T.setVm s.vm).sameButNew ({ U with vm := s.vm } : State) [] (0 + 1) (0 + 6) := ⟨e1, e2⟩
    have h3 := X.same.trans h2
    rw [List.append_nil] at h3
    exact h3.mono hc hs
  refine ⟨U, ?_, .threw T.heap.size, hrun, hend, Or.inr ⟨T.heap.size, rfl, cls, ce, locs, hx U hWs.alike f1 (fun q hq => f2 q hq (fun z hz => nomatch hz)), hce, hO.vm, hcl, hWs, hall, hf⟩⟩
  refine st1 _ ?_
  show Steps p.tables e below (T1.setTop { method := m, pc := pc + 3, locals := ls, stack := .ref T.heap.size :: rest, locked := none }) _
  jvm_step X₁.here [X₁.here.top, hexec, d3', Value.category]
  exact X₁.ldcStringW hexec (own := own) (text := text) (index := is) (a := sa) hown' hstr'.1 hstr'.2
    (g := { method := m, pc := pc + 4, locals := ls, stack := .ref T.heap.size :: .ref T.heap.size :: rest, locked := none }) rfl d4' _ hsteps
end Ends
section Bodies
variable {l : Launch}
theorem vx_ofW {y : MethodName} {ws ws' : List Cond} {rm : Room} {Pc : Array Value → State → Prop} {Qc : Array Value → State → Outcome → State → Prop} {XC : String → State → State → Prop} {mc ms : Nat} {free : Addr → Prop} {cc : ByteArray} {maxL : Nat} {ret : Option FieldType}
    (hy : plainName y.cls = true) (hw : ws = Cond.code y cc maxL ret :: ws')
    (body : ∀ p e s m args below meth c s₁, BodyLoose p l y (headSpec ws rm) cc maxL ret e s m args below meth c s₁ → c.maxLocals = maxL → (∀ x ∈ c.exceptionTable.toList, False) → Pc args s →
      W p l e (headSpec ws rm).room s m args below meth c s.heap [] 0 0 (vx_MQ below Qc XC args s mc ms free) (entryFrame m args maxL)) : vx_Met l y ws rm Pc Qc XC mc ms free := by
  refine MetFree.of_bodyS (code := cc) (maxLocals := maxL) (ret := ret) hy ?_ ?_
  · intro args s m h hn
    obtain ⟨meth, c, h1, h2, h3, h4, h5, h6, -, -⟩ := Cond.code_spec hn (atoms_spec (ws := ws) h _ (by rw [hw]; exact List.mem_cons_self))
    exact ⟨meth, c, h1, h2, h3, h4, h5, h6⟩
  · intro p e s m args below meth c s₁ B hml hP _
    have hh0 : s₁.heap = s.heap := by rw [B.state]; rfl
    have ht : ∀ x ∈ c.exceptionTable.toList, False := by
      obtain ⟨meth9, c9, h1, h2, -, -, -, -, h7, -⟩ := Cond.code_spec B.named (atoms_spec (ws := ws) B.pre _ (by rw [hw]; exact List.mem_cons_self))
      cases Option.some.inj (h1.symm.trans B.method)
      cases Option.some.inj (h2.symm.trans (Stand.of_body B).code)
      intro x hx
      rw [Array.isEmpty_iff.mp h7] at hx
      cases hx
    obtain ⟨t, a1, o, b1, b2, b3⟩ := body p e s m args below meth c s₁ B hml ht hP s₁ hh0 (Stand.of_body B)
    exact ⟨t, o, a1, b1, b2, b3⟩
/-- the table of a body with handlers -/
theorem vx_table {p : Program} {x y : MethodName} {S : Spec} {cc bytes : ByteArray} {maxL maxL' : Nat} {ret ret' : Option FieldType} {e : Env} {s s₁ : State} {m : MethodId} {args : Array Value} {below : List Frame} {meth : Method} {c : Code} {hh : List (Nat × Nat × Nat × Nat)}
    (B : BodyLoose p l y S cc maxL ret e s m args below meth c s₁) (h : (Cond.codeWith y bytes maxL' ret' hh).before args s = true) : c.exceptionTable.toList = tableOf hh := by
  obtain ⟨m9, meth9, c9, hn9, h1, h2, -, -, h6, -⟩ := Cond.codeWith_spec h
  cases Option.some.inj (hn9.symm.trans B.named)
  cases Option.some.inj (h1.symm.trans B.method)
  cases Option.some.inj (h2.symm.trans (Stand.of_body B).code)
  rw [← h6, table_eq]
end Bodies
end VXA
/-! ===== END ===== -/
/-! ===== BEGIN a static call of a method with an exception table ===== -/
section VXS
variable {p : Program} {l : Launch} {e : Env} {R : Room} {s : State} {m : MethodId} {args : Array Value} {below : List Frame} {meth : Method} {c : Code} {T : State} {H : Heap} {locs : List Loc} {cells slots : Nat}
abbrev vx_CSW (R : Room) (s : State) (args : Array Value) (own : String) (index : Nat) (y : MethodName) (bytes : ByteArray) (maxL : Nat) (ret : Option FieldType) (hh : List (Nat × Nat × Nat × Nat)) (ws : List Cond) (rm : Room) (mc ms n : Nat) : Prop :=
  (rm.cells = mc ∧ rm.slots = ms ∧ rm.frames + 1 ≤ R.frames ∧ 8 + (maxL + 11) + rm.locals ≤ R.locals ∧ (∀ w ∈ ws, ∀ (a' : Array Value) (U : State), s.WarmedH U.vm → w.before a' U = true) ∧ Cond.codeWith y bytes maxL ret hh ∈ ws) ∧
  (Cond.codeWith y bytes maxL ret hh).before args s = true ∧ (Cond.initialized y.cls).before args s = true ∧ (y.cls ≠ "java/lang/invoke/MethodHandle" ∧ y.cls ≠ "java/lang/invoke/VarHandle") ∧
  (∀ sig, parseMethodDescriptor y.desc = some sig → n = sig.parameters.length) ∧ (Cond.methodLink own index y).before args s = true ∧ (Cond.static y).before args s = true
theorem vx_cwSW {own : String} {index maxL mc ms : Nat} {y : MethodName} {bytes : ByteArray} {ret : Option FieldType} {hh : List (Nat × Nat × Nat × Nat)} {Ts ws ws' : List Cond} {rm : Room} (n : Nat) (ht : ∀ w ∈ Ts, w.before args s = true) (hT : GoodIn Ts (va_wsS own index y ws)) (hw : ws = Cond.codeWith y bytes maxL ret hh :: ws') (hrc : rm.cells = mc) (hrs : rm.slots = ms)
    (hd : y.cls ≠ "java/lang/invoke/MethodHandle" ∧ y.cls ≠ "java/lang/invoke/VarHandle" ∧ (parseMethodDescriptor y.desc).map (fun d => d.parameters.length) = some n) (hR : rm.frames + 1 ≤ R.frames ∧ 8 + (maxL + 11) + rm.locals ≤ R.locals) :
    vx_CSW R s args own index y bytes maxL ret hh ws rm mc ms n := by
  have ok : ∀ w ∈ va_wsS own index y ws, w.before args s = true := fun w h => ht w (hT w h).1
  have hG : GoodIn Ts ws := fun w h => hT w (by unfold va_wsS; exact List.mem_append_right _ h)
  have hc : Cond.codeWith y bytes maxL ret hh ∈ ws := by rw [hw]; exact List.mem_cons_self
  refine ⟨⟨hrc, hrs, hR.1, hR.2, pay_in ht hG, hc⟩, ht _ (hG _ hc).1, ok _ (by simp [va_wsS]), ⟨hd.1, hd.2.1⟩, fun sig h => ?_, ok _ (by simp [va_wsS]), ok _ (by simp [va_wsS])⟩
  have h2 := hd.2.2
  rw [h] at h2
  exact (Option.some.inj h2).symm
theorem vx_callSW (X : Stand p l e R s m args below meth c T locs cells slots) (hexec : p.tables.exec = Jvm.exec) {own : String} {index : Nat} {y : MethodName} {bytes : ByteArray} {maxL : Nat} {ret : Option FieldType} {hh : List (Nat × Nat × Nat × Nat)}
    (hown : s.vm.findClass own = some m.cls) (hlink : (Cond.methodLink own index y).before args s = true) (hstat : (Cond.static y).before args s = true) (hinit : (Cond.initialized y.cls).before args s = true)
    (hcode : (Cond.codeWith y bytes maxL ret hh).before args s = true) (hy : y.cls ≠ "java/lang/invoke/MethodHandle" ∧ y.cls ≠ "java/lang/invoke/VarHandle")
    {W9 : Nat} {Pre : Pt → Array Value → Prop} {Post : Pt → Array Value → Option Value → Pt → Prop} (hK : Back l R p e below s args y 3 W9 Pre Post)
    {g : JFrame} (hg : g.method = m) (hsize : g.locals.size = c.maxLocals) {argsL rest : List Value} (hlen : ∀ sig, parseMethodDescriptor y.desc = some sig → argsL.length = sig.parameters.length)
    (hstack : g.stack = argsL.reverse ++ rest) (hW : 2 * g.monitorRoom + (rest.map fun v => v.category).sum ≤ W9) (hdg : decode c.code g.pc = .ok (.invokestatic index, 3))
    (hpre : ∀ vm₁, s.WarmedH vm₁ → Pre ⟨T.setVm vm₁, locs, cells, slots⟩ argsL.toArray) :
    ∃ (v : Option Value) (vm₁ : Vm) (B : Pt), s.WarmedH vm₁ ∧ Stand p l e R s m args below meth c B.U B.locs B.cells B.slots ∧ Post ⟨T.setVm vm₁, locs, cells, slots⟩ argsL.toArray v B ∧
      ∀ target, Steps p.tables e below (B.U.setTop { g with pc := g.pc + 3, stack := v.toList ++ rest }) target → Steps p.tables e below (T.setTop g) target := by
  obtain ⟨mk, methM, cM, hnamed, hmethM, -, -, -, -, -, -, hsigM⟩ := Cond.codeWith_spec hcode
  have hstatic : methM.isStatic = true := Cond.static_spec hnamed hmethM hstat
  obtain ⟨kP, hkP, -⟩ := className_of_methodNamed hnamed
  have hinitP : kP.init = .initialized := Cond.initialized_spec (findClass_of_methodNamed hnamed) hkP hinit
  obtain ⟨vm₁, X₁, hstep₁⟩ := X.invokestatic hexec hown hlink hnamed hmethM hstatic hkP hinitP hy (g := g) hg (argsL := argsL) (rest := rest) (hlen _ hsigM) hstack hdg
  obtain ⟨v, B, X', hpost, hsteps⟩ := hK m meth c ⟨T.setVm vm₁, locs, cells, slots⟩ { g with stack := rest } (.invokestatic index) mk argsL.toArray X₁ hg hsize hdg hW (X₁.named hnamed) (hpre vm₁ X₁.warmed)
  exact ⟨v, vm₁, B, X₁.warmed, X', hpost, fun target h => hstep₁ _ fun acts => by rw [doInvoke_state]; exact hsteps.trans h⟩
theorem vx_runSW {y : MethodName} {bytes cc : ByteArray} {maxL nL mc ms n index : Nat} {ret : Option FieldType} {hh : List (Nat × Nat × Nat × Nat)} {ws : List Cond} {rm : Room} {Pc : Array Value → State → Prop} {Qc : Array Value → State → Outcome → State → Prop} {free : Addr → Prop} {Ts : List Cond} {own : String} {As rest : List Value} {g : JFrame}
    (S : CallFix p m c cc nL s args Ts own) (hM : Met l y ws rm Pc Qc mc ms free) (cw : vx_CSW R s args own index y bytes maxL ret hh ws rm mc ms n) (hp : PreS s H Pc As)
    (hg : g.method = m) (hn : As.length = n) (hsize : g.locals.size = nL) (hstack : g.stack = As.reverse ++ rest) (hW : 2 * g.monitorRoom + (rest.map fun v => v.category).sum ≤ 8) (hdg : decode cc g.pc = .ok (.invokestatic index, 3)) (hf : cells + mc ≤ R.cells ∧ slots + ms ≤ R.slots) :
    va_Run p l e R s m args below meth c H locs cells slots mc ms g rest (Qc As.toArray) (free) := by
  obtain ⟨⟨hrc, hrs, hfr, hlo, hws, hcw⟩, hcode, hini, hy, hlen, hl, hstt⟩ := cw
  have hK : Back l R p e below s args y 3 8 (PreOf R mc ms Pc) (PostOf Qc mc ms free) := va_backW (hh := hh) (bytes := bytes) (maxL := maxL) (ret := ret) hM hp.1 hrc hrs hfr hlo hws hcw (fun a' U hW => word_at hW (Or.inl (by first | rfl | simp [Cond.onTables, Cond.keeps, Cond.steady])) hini)
  obtain ⟨hx, hb, hml, ho, -⟩ := S
  intro T hT X
  obtain ⟨v, vm₁, ⟨U', l2, c2, s2⟩, hW₁, X', ⟨g', mk, t, L, e1, e2, hq, h1, hL, h2, h3⟩, st⟩ := vx_callSW X hx (hh := hh) (bytes := bytes) (maxL := maxL) (ret := ret) ho hl hstt hini hcode hy hK hg (hsize.trans hml.symm) (argsL := As) (rest := rest) (fun sig h => hn.trans (hlen sig h)) hstack hW (by rw [hb]; exact hdg)
    (fun vm₁ hW₁ => ⟨hf.1, hf.2, hp.2 (T.setVm vm₁) hT hW₁⟩)
  dsimp only [Pt.U, Pt.locs, Pt.cells, Pt.slots] at X' e1 e2 h1 h2 h3 st
  subst h1; subst h2; subst h3
  exact ⟨v, (T.setVm vm₁).calling g' mk As.toArray, t, U', L, hT, X', hL, e1, e2, hq, st⟩
/-- not caught here, past rows that name other classes: it goes on to the caller -/
theorem vx_outP {p : Program} {l : Launch} {e : Env} {R : Room} {s : State} {m : MethodId} {args : Array Value} {below : List Frame} {meth : Method} {c : Code} {H : Heap} {locs : List Loc} {cells slots : Nat} {free : Addr → Prop} {ls : Array Slot} {rest : List Value} {Qc : Array Value → State → Outcome → State → Prop} {XC : String → State → State → Prop}
    {pc : Nat} {own E : String} {ce : Cell} {q : Addr} {mc ms : Nat} (hown : s.vm.findClass own = some m.cls) (hlocks : meth.locks = false)
    (hpass : ∀ z ∈ c.exceptionTable.toList, covers z pc = false ∨ (z.catchType ≠ 0 ∧ ∃ nm : String, (Cond.classLink own z.catchType nm).before args s = true ∧ va_Nc E nm s)) (hcell : H[q]? = some ce) (hv : ce.vm = .none) (hcl : s.vm.findClass E = some ce.cls)
    (hx : ∀ t : State, t.heap = H → s.vm.Alike t.vm → XC E s t) (hf : ∀ z ∈ locs, free z.base) (hc : cells ≤ mc) (hs : slots ≤ ms) :
    vx_W p l e R s m args below meth c H locs cells slots (vx_MQ below Qc XC args s mc ms free) (F0 m pc ls rest) q := by
  intro T hT X
  have hpl : e.platform.magicAccessors = ({} : Platform).magicAccessors := by rw [X.admits.platform]
  obtain ⟨vm', hW', X', st⟩ := X.outThrough hlocks q (g := F0 m pc ls rest) rfl rfl rfl (cell := ce) (by rw [hT]; exact hcell) (by rw [hv]; rfl)
    (by obtain ⟨k9, h9, -⟩ := Vm.findClass_spec hcl; exact ⟨k9, h9⟩) (fun z hz => by
      rcases hpass z hz with h | ⟨hz0, nm, hl1, hn1⟩
      · exact Or.inl h
      · obtain ⟨c6, hc6, hcl6⟩ := Cond.classLink_spec hown hl1 e.platform hpl
        obtain ⟨a8, b8, h1, h2, h3⟩ := hn1
        cases Option.some.inj (h1.symm.trans hcl)
        cases Option.some.inj (h2.symm.trans hc6)
        exact Or.inr ⟨hz0, _, hcl6, h3⟩)
  obtain ⟨g₀, hfr⟩ := X'.frames_eq
  have hcell9 : ((T.setVm vm').setFrames (.throwing q :: below)).heap[q]? = some ce := by
    show T.heap[q]? = some ce
    rw [hT]; exact hcell
  have hend : Ended ((T.setVm vm').setFrames (.throwing q :: below)) below (.threw q) := State.frames_setFrames _ (State.cur_lt_of_frames hfr)
  refine ⟨(T.setVm vm').setFrames (.throwing q :: below), ?_, .threw q, X'.here.running, hend, Or.inr ⟨q, rfl, E, ce, locs, hx _ hT (X'.ends _).1.alike, hcell9, hv, hcl, (X'.ends _).1, (X'.ends _).2.mono hc hs, hf⟩⟩
  rw [X.pushThrowing_eq]
  exact st
/-- a thing of a world lies in the heap -/
theorem vx_lt {D : va_G} {cl : List vw_C} {ws : va_W} {H1 : Heap} (h : va_P D cl ws H1) {k : Nat} {q : Nat × va_E} (hk : ws[k]? = some q) : q.1 < H1.size := (h k q hk).lt
end VXS
/-! ===== END ===== -/
/-! ===== BEGIN methods with a table of their own: called by a name, returning or throwing ===== -/
section VXH
/-! vx_backW, vx_callVX, vx_callSX, vx_callVW, vx_runVW, vx_runVX, vx_runSX, vx_ofWH follow the same proofs as their sisters above (Free/Laws.lean, Shelf42/LK1.lean); vx_outP calls Shelf42/NT130.lean (outThrough). -/
section
variable {l : Launch} {R : Room} {p : Program} {e : Env} {below : List Frame} {s : State} {sargs : Array Value} {y : MethodName} {len W9 : Nat}
theorem vx_backW {ws : List Cond} {rm : Room} {Pc : Array Value → State → Prop} {Qc : Array Value → State → Outcome → State → Prop} {XC : String → State → State → Prop} {mc ms : Nat} {free : Addr → Prop} {bytes : ByteArray} {maxL : Nat} {ret : Option FieldType} {hh : List (Nat × Nat × Nat × Nat)}
    (hM : vx_Met l y ws rm Pc Qc XC mc ms free) (hblind : FrameBlind Pc) (hrc : rm.cells = mc) (hrs : rm.slots = ms)
    (hframes : rm.frames + 1 ≤ R.frames) (hlocals : W9 + (maxL + 11) + rm.locals ≤ R.locals)
    (hws : ∀ w ∈ ws, ∀ a' U, s.WarmedH U.vm → w.before a' U = true) (hcode : Cond.codeWith y bytes maxL ret hh ∈ ws) (hinit : ∀ a' U, s.WarmedH U.vm → (Cond.initialized y.cls).before a' U = true) :
    vx_Back l R p e below s sargs y len W9 (PreOf R mc ms Pc) (PostOf Qc mc ms free) (vx_Post XC mc ms free) := by
  intro m meth c A g ig mk a X hg hsize hdg hW hn hp
  have h1 : (headSpec ws rm).pre.before a A.U = true := atoms_intro fun w hw => hws w hw _ _ X.warmed
  have h2 : (Cond.codeWith y bytes maxL ret hh).before a A.U = true := hws _ hcode _ _ X.warmed
  have h3 : (Cond.initialized y.cls).before a A.U = true := hinit _ _ X.warmed
  have h4 : A.cells + (headSpec ws rm).room.cells ≤ R.cells := by rw [show (headSpec ws rm).room.cells = mc from hrc]; exact hp.1
  have h5 : A.slots + (headSpec ws rm).room.slots ≤ R.slots := by rw [show (headSpec ws rm).room.slots = ms from hrs]; exact hp.2.1
  have hPc : Pc a (A.U.calling g mk a) := hblind _ _ _ _ hp.2.2
  obtain ⟨U, Ls, c0, s0⟩ := A
  dsimp only [Pt.U, Pt.locs, Pt.cells, Pt.slots] at h1 h2 h3 h4 h5 X hn hPc ⊢
  obtain ⟨m9, methY, cY, hn9, hmY, hcY, -, hlY, -⟩ := Cond.codeWith_spec h2
  cases Option.some.inj (hn9.symm.trans hn)
  obtain ⟨kY, hkY, -⟩ := className_of_methodNamed hn
  have hinitY : kY.init = .initialized := Cond.initialized_spec (findClass_of_methodNamed hn) hkY h3
  have h : At U g.method c below := by rw [hg]; exact X.here
  have hlocals9 : W9 + (maxL + 11) + (headSpec ws rm).room.locals ≤ R.locals := hlocals
  have happ : (headSpec ws rm).appliesLoose y e.platform (U.calling g mk a) = true :=
    Spec.appliesLoose_calling (g := g) h hdg hn hkY hinitY
      (X.room_calling (g := g) (R' := (headSpec ws rm).room) hsize hmY hcY hframes (by rw [hlY]; omega) h4 h5) h1
  obtain ⟨mid, hmid⟩ := h.above
  have hfr : (U.setTop g).frames = (.java g :: mid) ++ below := by rw [State.frames_setTop' g h.top, hmid]; rfl
  obtain ⟨o, s₂, hsteps, -, hend, hq⟩ := Steps.callFree hM p X.admits X.cas X.clock (acts := []) hfr happ hPc trivial
  have hq' : vx_Q Qc XC mc ms free a (U.calling g mk a) o s₂ := hq
  rw [State.frames_setTop' g h.top] at hend
  obtain ⟨g₀, hg0⟩ := Option.isSome_iff_exists.mp h.top
  obtain ⟨r, hr⟩ := State.topJava?_eq_some.mp hg0
  have hr' : (({ U with heap := s₂.heap, slotsUsed := s₂.slotsUsed } : State).setVm s₂.vm).frames = .java g₀ :: r := hr
  rcases hq' with ⟨hqc, L, hfe, hL⟩ | ⟨q, rfl, E, ce, L, hx, hce, hcv, hcl, hW₂, hsm, hL⟩
  · obtain ⟨⟨v, rfl⟩, hW₂, e2, q2, q3, q4, q5, q6⟩ := id hfe
    have e3 : s₂ = ({ (U.calling g mk a).setFrames s₂.frames with heap := s₂.heap, slotsUsed := s₂.slotsUsed } : State).setVm s₂.vm := by
      have : s₂ = ({ s₂ with vm := (U.calling g mk a).vm } : State).setVm s₂.vm := rfl
      rw [e2] at this
      exact this
    obtain ⟨c₂, i₂, len₂, hc₂, hd₂, hf₂⟩ := hend
    have hW' : U.WarmedH s₂.vm := hW₂
    have hcc : c₂ = c := by
      have h1 : s₂.code? g.method = U.code? g.method := by
        rw [State.code?_eq, State.code?_eq, hW'.alike.method?]
      exact Option.some.inj (hc₂.symm.trans (h1.trans h.code))
    subst hcc
    have hlen : len₂ = len := by rw [hdg] at hd₂; cases hd₂; rfl
    subst hlen
    have hs₂ : s₂ = (({ U with heap := s₂.heap, slotsUsed := s₂.slotsUsed } : State).setVm s₂.vm).setTop { g with pc := g.pc + len₂, stack := v.toList ++ g.stack } := by
      refine e3.trans ?_
      rw [hf₂, State.calling_eq h.top, State.setFrames_setFrames, State.setTop_of_frames _ hr', hr]
      rfl
    have hsame : U.sameButNew ({ U with heap := s₂.heap, slotsUsed := s₂.slotsUsed } : State) L mc ms := by
      refine ⟨?_, q2, q3, q4, q5, q6⟩
      obtain ⟨t, ht, -⟩ := State.frames_cons hr
      show ({ U with heap := s₂.heap, slotsUsed := s₂.slotsUsed } : State) = { U.setFrames U.frames with heap := s₂.heap, slotsUsed := s₂.slotsUsed }
      rw [State.setFrames_self ht]
    subst hg
    refine Or.inl ⟨v, ⟨(({ U with heap := s₂.heap, slotsUsed := s₂.slotsUsed } : State).setVm s₂.vm), Ls ++ L, c0 + mc, s0 + ms⟩,
      ⟨X.admits, X.cas, X.clock, X.frames, X.room, X.hears, X.method, X.code, (X.here.setHeapUsed s₂.heap s₂.slotsUsed).setVm hW'.alike, X.tail, State.WarmedH.trans X.warmed hW', X.limits, X.bytes, X.same.trans (hsame.setVm s.vm)⟩,
      ⟨g, mk, s₂, L, rfl, rfl, hqc, rfl, hL, rfl, rfl⟩, ?_⟩
    show Steps p.tables e below _ ((({ U with heap := s₂.heap, slotsUsed := s₂.slotsUsed } : State).setVm s₂.vm).setTop { g with pc := g.pc + len₂, stack := v.toList ++ g.stack })
    rw [← hs₂]
    exact hsteps
  · obtain ⟨e2, q2, q3, q4, q5, q6⟩ := id hsm
    have e3 : s₂ = ({ (U.calling g mk a).setFrames s₂.frames with heap := s₂.heap, slotsUsed := s₂.slotsUsed } : State).setVm s₂.vm := by
      have : s₂ = ({ s₂ with vm := (U.calling g mk a).vm } : State).setVm s₂.vm := rfl
      rw [e2] at this
      exact this
    have hf₂ : s₂.frames = .throwing q :: .java g :: U.frames.tail := hend
    have hW' : U.WarmedH s₂.vm := hW₂
    have hs₂ : s₂ = ((({ U with heap := s₂.heap, slotsUsed := s₂.slotsUsed } : State).setVm s₂.vm).setTop g).pushFrame (.throwing q) := by
      refine e3.trans ?_
      rw [hf₂, State.calling_eq h.top, State.setFrames_setFrames, State.pushFrame, State.frames_setTop _ hr', State.setTop_of_frames _ hr', State.setFrames_setFrames, hr]
      rfl
    have hsame : U.sameButNew ({ U with heap := s₂.heap, slotsUsed := s₂.slotsUsed } : State) L mc ms := by
      refine ⟨?_, q2, q3, q4, q5, q6⟩
      obtain ⟨t, ht, -⟩ := State.frames_cons hr
      show ({ U with heap := s₂.heap, slotsUsed := s₂.slotsUsed } : State) = { U.setFrames U.frames with heap := s₂.heap, slotsUsed := s₂.slotsUsed }
      rw [State.setFrames_self ht]
    subst hg
    refine Or.inr ⟨q, ⟨(({ U with heap := s₂.heap, slotsUsed := s₂.slotsUsed } : State).setVm s₂.vm), Ls ++ L, c0 + mc, s0 + ms⟩,
      ⟨X.admits, X.cas, X.clock, X.frames, X.room, X.hears, X.method, X.code, (X.here.setHeapUsed s₂.heap s₂.slotsUsed).setVm hW'.alike, X.tail, State.WarmedH.trans X.warmed hW', X.limits, X.bytes, X.same.trans (hsame.setVm s.vm)⟩,
      ⟨g, mk, s₂, L, E, ce, rfl, rfl, hx, hce, hcv, hcl, rfl, hL, rfl, rfl⟩, ?_⟩
    show Steps p.tables e below _ (((({ U with heap := s₂.heap, slotsUsed := s₂.slotsUsed } : State).setVm s₂.vm).setTop g).pushFrame (.throwing q))
    rw [← hs₂]
    exact hsteps
end
variable {p : Program} {l : Launch} {e : Env} {R : Room} {s : State} {m : MethodId} {args : Array Value} {below : List Frame} {meth : Method} {c : Code} {T : State} {H : Heap} {locs : List Loc} {cells slots : Nat}
theorem vx_callVX (X : Stand p l e R s m args below meth c T locs cells slots) (hexec : p.tables.exec = Jvm.exec) {own C : String} {index : Nat} {y : MethodName} {bytes : ByteArray} {maxL : Nat} {ret : Option FieldType} {hh : List (Nat × Nat × Nat × Nat)}
    (hown : s.vm.findClass own = some m.cls) (hlink : (Cond.methodLink own index y).before args s = true) (hinst : (Cond.instanceMethod y).before args s = true) (hsel : (Cond.selects C y y).before args s = true)
    (hcode : (Cond.codeWith y bytes maxL ret hh).before args s = true) (hy : y.cls ≠ "java/lang/invoke/MethodHandle" ∧ y.cls ≠ "java/lang/invoke/VarHandle")
    {W9 : Nat} {Pre : Pt → Array Value → Prop} {Post : Pt → Array Value → Option Value → Pt → Prop} {PostX : Pt → Array Value → Addr → Pt → Prop} (hK : vx_Back l R p e below s args y 3 W9 Pre Post PostX)
    {b : Addr} {cellB : Cell} (hcell : T.heap[b]? = some cellB) (hobj : cellB.vm.isStatics = false) (hcls : s.vm.findClass C = some cellB.cls)
    {g : JFrame} (hg : g.method = m) (hsize : g.locals.size = c.maxLocals) {argsL rest : List Value} (hlen : ∀ sig, parseMethodDescriptor y.desc = some sig → argsL.length = sig.parameters.length)
    (hstack : g.stack = argsL.reverse ++ .ref b :: rest) (hW : 2 * g.monitorRoom + (rest.map fun v => v.category).sum ≤ W9) (hdg : decode c.code g.pc = .ok (.invokevirtual index, 3))
    (hpre : ∀ vm₁, s.WarmedH vm₁ → Pre ⟨T.setVm vm₁, locs, cells, slots⟩ (Value.ref b :: argsL).toArray) :
    (∃ (v : Option Value) (vm₁ : Vm) (B : Pt), s.WarmedH vm₁ ∧ Stand p l e R s m args below meth c B.U B.locs B.cells B.slots ∧ Post ⟨T.setVm vm₁, locs, cells, slots⟩ (Value.ref b :: argsL).toArray v B ∧
      ∀ target, Steps p.tables e below (B.U.setTop { g with pc := g.pc + 3, stack := v.toList ++ rest }) target → Steps p.tables e below (T.setTop g) target) ∨
    (∃ (q : Addr) (vm₁ : Vm) (B : Pt), s.WarmedH vm₁ ∧ Stand p l e R s m args below meth c B.U B.locs B.cells B.slots ∧ PostX ⟨T.setVm vm₁, locs, cells, slots⟩ (Value.ref b :: argsL).toArray q B ∧
      Steps p.tables e below (T.setTop g) ((B.U.setTop { g with stack := rest }).pushFrame (.throwing q))) := by
  obtain ⟨mk, methM, hnamed, hmethM, hstM, habM⟩ := Cond.instanceMethod_spec hinst
  obtain ⟨m8, methM', cM, hn8, hmethM', -, -, -, -, -, -, hsigM⟩ := Cond.codeWith_spec hcode
  cases Option.some.inj (hn8.symm.trans hnamed)
  cases hmethM.symm.trans hmethM'
  obtain ⟨c2, r2, m2, q1, q2, q3, q4, kP, hkP, hkPi⟩ := Cond.selects_spec hsel
  cases hcls.symm.trans q1
  cases (State.methodFound?_of_named hnamed hy).symm.trans q2
  cases hnamed.symm.trans q3
  have hselP : selectMethod e.platform s.vm cellB.cls mk = .method mk := by rw [Launch.admits_selectMethod X.admits]; exact q4
  obtain ⟨vm₁, X₁, hstep₁⟩ := X.invokevirtual hexec hown hlink hnamed hmethM hstM hkP hkPi hy (a := b) (cell := cellB) hcell
    (fun z h => by rw [h] at hobj; cases hobj) hselP hmethM habM hkP hkPi (g := g) hg (argsL := argsL) (rest := rest) (hlen _ hsigM) hstack hdg
  rcases hK m meth c ⟨T.setVm vm₁, locs, cells, slots⟩ { g with stack := rest } (.invokevirtual index) mk (Value.ref b :: argsL).toArray X₁ hg hsize hdg hW (X₁.named hnamed) (hpre vm₁ X₁.warmed) with ⟨v, B, X', hpost, hsteps⟩ | ⟨q, B, X', hpost, hsteps⟩
  · exact Or.inl ⟨v, vm₁, B, X₁.warmed, X', hpost, fun target h => hstep₁ _ fun acts => by rw [doInvoke_state]; exact hsteps.trans h⟩
  · exact Or.inr ⟨q, vm₁, B, X₁.warmed, X', hpost, hstep₁ _ fun acts => by rw [doInvoke_state]; exact hsteps⟩
theorem vx_callSX (X : Stand p l e R s m args below meth c T locs cells slots) (hexec : p.tables.exec = Jvm.exec) {own : String} {index : Nat} {y : MethodName} {bytes : ByteArray} {maxL : Nat} {ret : Option FieldType} {hh : List (Nat × Nat × Nat × Nat)}
    (hown : s.vm.findClass own = some m.cls) (hlink : (Cond.methodLink own index y).before args s = true) (hstat : (Cond.static y).before args s = true) (hinit : (Cond.initialized y.cls).before args s = true)
    (hcode : (Cond.codeWith y bytes maxL ret hh).before args s = true) (hy : y.cls ≠ "java/lang/invoke/MethodHandle" ∧ y.cls ≠ "java/lang/invoke/VarHandle")
    {W9 : Nat} {Pre : Pt → Array Value → Prop} {Post : Pt → Array Value → Option Value → Pt → Prop} {PostX : Pt → Array Value → Addr → Pt → Prop} (hK : vx_Back l R p e below s args y 3 W9 Pre Post PostX)
    {g : JFrame} (hg : g.method = m) (hsize : g.locals.size = c.maxLocals) {argsL rest : List Value} (hlen : ∀ sig, parseMethodDescriptor y.desc = some sig → argsL.length = sig.parameters.length)
    (hstack : g.stack = argsL.reverse ++ rest) (hW : 2 * g.monitorRoom + (rest.map fun v => v.category).sum ≤ W9) (hdg : decode c.code g.pc = .ok (.invokestatic index, 3))
    (hpre : ∀ vm₁, s.WarmedH vm₁ → Pre ⟨T.setVm vm₁, locs, cells, slots⟩ argsL.toArray) :
    (∃ (v : Option Value) (vm₁ : Vm) (B : Pt), s.WarmedH vm₁ ∧ Stand p l e R s m args below meth c B.U B.locs B.cells B.slots ∧ Post ⟨T.setVm vm₁, locs, cells, slots⟩ argsL.toArray v B ∧
      ∀ target, Steps p.tables e below (B.U.setTop { g with pc := g.pc + 3, stack := v.toList ++ rest }) target → Steps p.tables e below (T.setTop g) target) ∨
    (∃ (q : Addr) (vm₁ : Vm) (B : Pt), s.WarmedH vm₁ ∧ Stand p l e R s m args below meth c B.U B.locs B.cells B.slots ∧ PostX ⟨T.setVm vm₁, locs, cells, slots⟩ argsL.toArray q B ∧
      Steps p.tables e below (T.setTop g) ((B.U.setTop { g with stack := rest }).pushFrame (.throwing q))) := by
  obtain ⟨mk, methM, cM, hnamed, hmethM, -, -, -, -, -, -, hsigM⟩ := Cond.codeWith_spec hcode
  have hstatic : methM.isStatic = true := Cond.static_spec hnamed hmethM hstat
  obtain ⟨kP, hkP, -⟩ := className_of_methodNamed hnamed
  have hinitP : kP.init = .initialized := Cond.initialized_spec (findClass_of_methodNamed hnamed) hkP hinit
  obtain ⟨vm₁, X₁, hstep₁⟩ := X.invokestatic hexec hown hlink hnamed hmethM hstatic hkP hinitP hy (g := g) hg (argsL := argsL) (rest := rest) (hlen _ hsigM) hstack hdg
  rcases hK m meth c ⟨T.setVm vm₁, locs, cells, slots⟩ { g with stack := rest } (.invokestatic index) mk argsL.toArray X₁ hg hsize hdg hW (X₁.named hnamed) (hpre vm₁ X₁.warmed) with ⟨v, B, X', hpost, hsteps⟩ | ⟨q, B, X', hpost, hsteps⟩
  · exact Or.inl ⟨v, vm₁, B, X₁.warmed, X', hpost, fun target h => hstep₁ _ fun acts => by rw [doInvoke_state]; exact hsteps.trans h⟩
  · exact Or.inr ⟨q, vm₁, B, X₁.warmed, X', hpost, hstep₁ _ fun acts => by rw [doInvoke_state]; exact hsteps⟩
theorem vx_callVW (X : Stand p l e R s m args below meth c T locs cells slots) (hexec : p.tables.exec = Jvm.exec) {own C : String} {index : Nat} {y : MethodName} {bytes : ByteArray} {maxL : Nat} {ret : Option FieldType} {hh : List (Nat × Nat × Nat × Nat)}
    (hown : s.vm.findClass own = some m.cls) (hlink : (Cond.methodLink own index y).before args s = true) (hinst : (Cond.instanceMethod y).before args s = true) (hsel : (Cond.selects C y y).before args s = true)
    (hcode : (Cond.codeWith y bytes maxL ret hh).before args s = true) (hy : y.cls ≠ "java/lang/invoke/MethodHandle" ∧ y.cls ≠ "java/lang/invoke/VarHandle")
    {W9 : Nat} {Pre : Pt → Array Value → Prop} {Post : Pt → Array Value → Option Value → Pt → Prop} (hK : Back l R p e below s args y 3 W9 Pre Post)
    {b : Addr} {cellB : Cell} (hcell : T.heap[b]? = some cellB) (hobj : cellB.vm.isStatics = false) (hcls : s.vm.findClass C = some cellB.cls)
    {g : JFrame} (hg : g.method = m) (hsize : g.locals.size = c.maxLocals) {argsL rest : List Value} (hlen : ∀ sig, parseMethodDescriptor y.desc = some sig → argsL.length = sig.parameters.length)
    (hstack : g.stack = argsL.reverse ++ .ref b :: rest) (hW : 2 * g.monitorRoom + (rest.map fun v => v.category).sum ≤ W9) (hdg : decode c.code g.pc = .ok (.invokevirtual index, 3))
    (hpre : ∀ vm₁, s.WarmedH vm₁ → Pre ⟨T.setVm vm₁, locs, cells, slots⟩ (Value.ref b :: argsL).toArray) :
    ∃ (v : Option Value) (vm₁ : Vm) (B : Pt), s.WarmedH vm₁ ∧ Stand p l e R s m args below meth c B.U B.locs B.cells B.slots ∧ Post ⟨T.setVm vm₁, locs, cells, slots⟩ (Value.ref b :: argsL).toArray v B ∧
      ∀ target, Steps p.tables e below (B.U.setTop { g with pc := g.pc + 3, stack := v.toList ++ rest }) target → Steps p.tables e below (T.setTop g) target := by
  obtain ⟨mk, methM, hnamed, hmethM, hstM, habM⟩ := Cond.instanceMethod_spec hinst
  obtain ⟨m8, methM', cM, hn8, hmethM', -, -, -, -, -, -, hsigM⟩ := Cond.codeWith_spec hcode
  cases Option.some.inj (hn8.symm.trans hnamed)
  cases hmethM.symm.trans hmethM'
  obtain ⟨c2, r2, m2, q1, q2, q3, q4, kP, hkP, hkPi⟩ := Cond.selects_spec hsel
  cases hcls.symm.trans q1
  cases (State.methodFound?_of_named hnamed hy).symm.trans q2
  cases hnamed.symm.trans q3
  have hselP : selectMethod e.platform s.vm cellB.cls mk = .method mk := by rw [Launch.admits_selectMethod X.admits]; exact q4
  obtain ⟨vm₁, X₁, hstep₁⟩ := X.invokevirtual hexec hown hlink hnamed hmethM hstM hkP hkPi hy (a := b) (cell := cellB) hcell
    (fun z h => by rw [h] at hobj; cases hobj) hselP hmethM habM hkP hkPi (g := g) hg (argsL := argsL) (rest := rest) (hlen _ hsigM) hstack hdg
  obtain ⟨v, B, X', hpost, hsteps⟩ := hK m meth c ⟨T.setVm vm₁, locs, cells, slots⟩ { g with stack := rest } (.invokevirtual index) mk (Value.ref b :: argsL).toArray X₁ hg hsize hdg hW (X₁.named hnamed) (hpre vm₁ X₁.warmed)
  exact ⟨v, vm₁, B, X₁.warmed, X', hpost, fun target h => hstep₁ _ fun acts => by rw [doInvoke_state]; exact hsteps.trans h⟩
abbrev vx_CVW (R : Room) (s : State) (args : Array Value) (own C : String) (index : Nat) (y : MethodName) (bytes : ByteArray) (maxL : Nat) (ret : Option FieldType) (hh : List (Nat × Nat × Nat × Nat)) (ws : List Cond) (rm : Room) (mc ms n : Nat) : Prop :=
  (rm.cells = mc ∧ rm.slots = ms ∧ rm.frames + 1 ≤ R.frames ∧ 8 + (maxL + 11) + rm.locals ≤ R.locals ∧ (∀ w ∈ ws, ∀ (a' : Array Value) (U : State), s.WarmedH U.vm → w.before a' U = true) ∧ Cond.codeWith y bytes maxL ret hh ∈ ws) ∧
  (Cond.codeWith y bytes maxL ret hh).before args s = true ∧ (Cond.initialized y.cls).before args s = true ∧ (y.cls ≠ "java/lang/invoke/MethodHandle" ∧ y.cls ≠ "java/lang/invoke/VarHandle") ∧
  (∀ sig, parseMethodDescriptor y.desc = some sig → n = sig.parameters.length) ∧ (Cond.methodLink own index y).before args s = true ∧ (Cond.instanceMethod y).before args s = true ∧ (Cond.selects C y y).before args s = true
theorem vx_cwVW {own C : String} {index maxL mc ms : Nat} {y : MethodName} {bytes : ByteArray} {ret : Option FieldType} {hh : List (Nat × Nat × Nat × Nat)} {Ts ws ws' : List Cond} {rm : Room} (n : Nat) (ht : ∀ w ∈ Ts, w.before args s = true) (hT : GoodIn Ts (wsV own index C y ws)) (hw : ws = Cond.codeWith y bytes maxL ret hh :: ws') (hrc : rm.cells = mc) (hrs : rm.slots = ms)
    (hd : y.cls = C ∧ y.cls ≠ "java/lang/invoke/MethodHandle" ∧ y.cls ≠ "java/lang/invoke/VarHandle" ∧ (parseMethodDescriptor y.desc).map (fun d => d.parameters.length) = some n) (hR : rm.frames + 1 ≤ R.frames ∧ 8 + (maxL + 11) + rm.locals ≤ R.locals) :
    vx_CVW R s args own C index y bytes maxL ret hh ws rm mc ms n := by
  obtain ⟨hC, hd⟩ := hd
  subst hC
  have ok : ∀ w ∈ wsV own index y.cls y ws, w.before args s = true := fun w h => ht w (hT w h).1
  have hG : GoodIn Ts ws := fun w h => hT w (by unfold wsV; exact List.mem_append_right _ h)
  have hc : Cond.codeWith y bytes maxL ret hh ∈ ws := by rw [hw]; exact List.mem_cons_self
  refine ⟨⟨hrc, hrs, hR.1, hR.2, pay_in ht hG, hc⟩, ht _ (hG _ hc).1, ok _ (by simp [wsV]), ⟨hd.1, hd.2.1⟩, fun sig h => ?_, ok _ (by simp [wsV]), ok _ (by simp [wsV]), ok _ (by simp [wsV])⟩
  have h2 := hd.2.2
  rw [h] at h2
  exact (Option.some.inj h2).symm
theorem vx_runVW {y : MethodName} {bytes cc : ByteArray} {maxL nL mc ms n index : Nat} {ret : Option FieldType} {hh : List (Nat × Nat × Nat × Nat)} {ws : List Cond} {rm : Room} {Pc : Array Value → State → Prop} {Qc : Array Value → State → Outcome → State → Prop} {free : Addr → Prop} {Ts : List Cond} {own C : String} {b : Addr} {As rest : List Value} {g : JFrame}
    (S : CallFix p m c cc nL s args Ts own) (hM : Met l y ws rm Pc Qc mc ms free) (cw : vx_CVW R s args own C index y bytes maxL ret hh ws rm mc ms n) (hp : PreV s H C b Pc As)
    (hg : g.method = m) (hn : As.length = n) (hsize : g.locals.size = nL) (hstack : g.stack = As.reverse ++ .ref b :: rest) (hW : 2 * g.monitorRoom + (rest.map fun v => v.category).sum ≤ 8) (hdg : decode cc g.pc = .ok (.invokevirtual index, 3)) (hf : cells + mc ≤ R.cells ∧ slots + ms ≤ R.slots) :
    va_Run p l e R s m args below meth c H locs cells slots mc ms g rest (Qc (Value.ref b :: As).toArray) free := by
  obtain ⟨⟨hrc, hrs, hfr, hlo, hws, hcw⟩, hcode, hini, hy, hlen, hl, hin, hse⟩ := cw
  have hK : Back l R p e below s args y 3 8 (PreOf R mc ms Pc) (PostOf Qc mc ms free) := va_backW (hh := hh) (bytes := bytes) (maxL := maxL) (ret := ret) hM hp.1 hrc hrs hfr hlo hws hcw (fun a' U hW => word_at hW (Or.inl (by first | rfl | simp [Cond.onTables, Cond.keeps, Cond.steady])) hini)
  obtain ⟨hx, hb, hml, ho, -⟩ := S
  obtain ⟨-, ⟨cellB, hcB, hoB, hclB⟩, hPc⟩ := hp
  intro T hT X
  obtain ⟨v, vm₁, ⟨U', l2, c2, s2⟩, hW₁, X', ⟨g', mk, t, L, e1, e2, hq, h1, hL, h2, h3⟩, st⟩ := vx_callVW X hx (C := C) (hh := hh) (bytes := bytes) (maxL := maxL) (ret := ret) ho hl hin hse hcode hy hK (by rw [hT]; exact hcB) hoB hclB hg (hsize.trans hml.symm) (argsL := As) (rest := rest) (fun sig h => hn.trans (hlen sig h)) hstack hW (by rw [hb]; exact hdg)
    (fun vm₁ hW₁ => ⟨hf.1, hf.2, hPc (T.setVm vm₁) hT hW₁⟩)
  dsimp only [Pt.U, Pt.locs, Pt.cells, Pt.slots] at X' e1 e2 h1 h2 h3 st
  subst h1; subst h2; subst h3
  exact ⟨v, (T.setVm vm₁).calling g' mk (Value.ref b :: As).toArray, t, U', L, hT, X', hL, e1, e2, hq, st⟩
section
variable {y : MethodName} {bytes cc : ByteArray} {maxL nL mc ms n index : Nat} {ret : Option FieldType} {ws : List Cond} {rm : Room} {Pc : Array Value → State → Prop} {Qc : Array Value → State → Outcome → State → Prop} {XC : String → State → State → Prop} {free : Addr → Prop} {Ts : List Cond} {own C : String} {b : Addr} {As rest : List Value} {g : JFrame}
theorem vx_runVX {hh : List (Nat × Nat × Nat × Nat)} (S : CallFix p m c cc nL s args Ts own) (hM : vx_Met l y ws rm Pc Qc XC mc ms free) (cw : vx_CVW R s args own C index y bytes maxL ret hh ws rm mc ms n) (hp : PreV s H C b Pc As)
    (hg : g.method = m) (hn : As.length = n) (hsize : g.locals.size = nL) (hstack : g.stack = As.reverse ++ .ref b :: rest) (hW : 2 * g.monitorRoom + (rest.map fun v => v.category).sum ≤ 8) (hdg : decode cc g.pc = .ok (.invokevirtual index, 3)) (hf : cells + mc ≤ R.cells ∧ slots + ms ≤ R.slots) :
    vx_Run p l e R s m args below meth c H locs cells slots mc ms g rest (Qc (Value.ref b :: As).toArray) XC free := by
  obtain ⟨⟨hrc, hrs, hfr, hlo, hws, hcw⟩, hcode, hini, hy, hlen, hl, hin, hse⟩ := cw
  have hK : vx_Back l R p e below s args y 3 8 (PreOf R mc ms Pc) (PostOf Qc mc ms free) (vx_Post XC mc ms free) := vx_backW (hh := hh) (bytes := bytes) (maxL := maxL) (ret := ret) hM hp.1 hrc hrs hfr hlo hws hcw (fun a' U hW => word_at hW (Or.inl (by first | rfl | simp [Cond.onTables, Cond.keeps, Cond.steady])) hini)
  obtain ⟨hx, hb, hml, ho, -⟩ := S
  obtain ⟨-, ⟨cellB, hcB, hoB, hclB⟩, hPc⟩ := hp
  intro T hT X
  rcases vx_callVX X hx (C := C) (hh := hh) (bytes := bytes) (maxL := maxL) (ret := ret) ho hl hin hse hcode hy hK (by rw [hT]; exact hcB) hoB hclB hg (hsize.trans hml.symm) (argsL := As) (rest := rest) (fun sig h => hn.trans (hlen sig h)) hstack hW (by rw [hb]; exact hdg)
    (fun vm₁ hW₁ => ⟨hf.1, hf.2, hPc (T.setVm vm₁) hT hW₁⟩) with ⟨v, vm₁, ⟨U', l2, c2, s2⟩, hW₁, X', ⟨g', mk, t, L, e1, e2, hq, h1, hL, h2, h3⟩, st⟩ | ⟨q, vm₁, ⟨U', l2, c2, s2⟩, hW₁, X', ⟨g', mk, t, L, E, ce, e1, e2, hq, hce, hcv, hcl, h1, hL, h2, h3⟩, st⟩
  · dsimp only [Pt.U, Pt.locs, Pt.cells, Pt.slots] at X' e1 e2 h1 h2 h3 st
    subst h1; subst h2; subst h3
    exact Or.inl ⟨v, (T.setVm vm₁).calling g' mk (Value.ref b :: As).toArray, t, U', L, hT, X', hL, e1, e2, hq, st⟩
  · dsimp only [Pt.U, Pt.locs, Pt.cells, Pt.slots] at X' e1 e2 h1 h2 h3 st hcl
    subst h1; subst h2; subst h3
    exact Or.inr ⟨q, (T.setVm vm₁).calling g' mk (Value.ref b :: As).toArray, t, U', L, E, ce, hT, X', hL, e1, e2, hq, hce, hcv, vx_cls hW₁ hcl, st⟩
theorem vx_runSX {hh : List (Nat × Nat × Nat × Nat)} (S : CallFix p m c cc nL s args Ts own) (hM : vx_Met l y ws rm Pc Qc XC mc ms free) (cw : vx_CSW R s args own index y bytes maxL ret hh ws rm mc ms n) (hp : PreS s H Pc As)
    (hg : g.method = m) (hn : As.length = n) (hsize : g.locals.size = nL) (hstack : g.stack = As.reverse ++ rest) (hW : 2 * g.monitorRoom + (rest.map fun v => v.category).sum ≤ 8) (hdg : decode cc g.pc = .ok (.invokestatic index, 3)) (hf : cells + mc ≤ R.cells ∧ slots + ms ≤ R.slots) :
    vx_Run p l e R s m args below meth c H locs cells slots mc ms g rest (Qc As.toArray) XC free := by
  obtain ⟨⟨hrc, hrs, hfr, hlo, hws, hcw⟩, hcode, hini, hy, hlen, hl, hstt⟩ := cw
  have hK : vx_Back l R p e below s args y 3 8 (PreOf R mc ms Pc) (PostOf Qc mc ms free) (vx_Post XC mc ms free) := vx_backW (hh := hh) (bytes := bytes) (maxL := maxL) (ret := ret) hM hp.1 hrc hrs hfr hlo hws hcw (fun a' U hW => word_at hW (Or.inl (by first | rfl | simp [Cond.onTables, Cond.keeps, Cond.steady])) hini)
  obtain ⟨hx, hb, hml, ho, -⟩ := S
  intro T hT X
  rcases vx_callSX X hx (hh := hh) (bytes := bytes) (maxL := maxL) (ret := ret) ho hl hstt hini hcode hy hK hg (hsize.trans hml.symm) (argsL := As) (rest := rest) (fun sig h => hn.trans (hlen sig h)) hstack hW (by rw [hb]; exact hdg)
    (fun vm₁ hW₁ => ⟨hf.1, hf.2, hp.2 (T.setVm vm₁) hT hW₁⟩) with ⟨v, vm₁, ⟨U', l2, c2, s2⟩, hW₁, X', ⟨g', mk, t, L, e1, e2, hq, h1, hL, h2, h3⟩, st⟩ | ⟨q, vm₁, ⟨U', l2, c2, s2⟩, hW₁, X', ⟨g', mk, t, L, E, ce, e1, e2, hq, hce, hcv, hcl, h1, hL, h2, h3⟩, st⟩
  · dsimp only [Pt.U, Pt.locs, Pt.cells, Pt.slots] at X' e1 e2 h1 h2 h3 st
    subst h1; subst h2; subst h3
    exact Or.inl ⟨v, (T.setVm vm₁).calling g' mk As.toArray, t, U', L, hT, X', hL, e1, e2, hq, st⟩
  · dsimp only [Pt.U, Pt.locs, Pt.cells, Pt.slots] at X' e1 e2 h1 h2 h3 st hcl
    subst h1; subst h2; subst h3
    exact Or.inr ⟨q, (T.setVm vm₁).calling g' mk As.toArray, t, U', L, E, ce, hT, X', hL, e1, e2, hq, hce, hcv, vx_cls hW₁ hcl, st⟩
end
end VXH
theorem vx_ofWH {l : Launch} {y : MethodName} {ws ws' : List Cond} {rm : Room} {Pc : Array Value → State → Prop} {Qc : Array Value → State → Outcome → State → Prop} {XC : String → State → State → Prop} {mc ms : Nat} {free : Addr → Prop} {cc : ByteArray} {maxL : Nat} {ret : Option FieldType} {hh : List (Nat × Nat × Nat × Nat)}
    (hy : plainName y.cls = true) (hw : ws = Cond.codeWith y cc maxL ret hh :: ws')
    (body : ∀ p e s m args below meth c s₁, BodyLoose p l y (headSpec ws rm) cc maxL ret e s m args below meth c s₁ → c.maxLocals = maxL → Pc args s →
      W p l e (headSpec ws rm).room s m args below meth c s.heap [] 0 0 (vx_MQ below Qc XC args s mc ms free) (entryFrame m args maxL)) : vx_Met l y ws rm Pc Qc XC mc ms free := by
  refine MetFree.of_bodyS (code := cc) (maxLocals := maxL) (ret := ret) hy ?_ ?_
  · intro args s m h hn
    obtain ⟨m9, meth, c, hn9, h1, h2, h3, h4, -, h5, h6, -⟩ := Cond.codeWith_spec (atoms_spec (ws := ws) h _ (by rw [hw]; exact List.mem_cons_self))
    cases hn.symm.trans hn9
    exact ⟨meth, c, h1, h2, h3, h4, h5, h6⟩
  · intro p e s m args below meth c s₁ B hml hP _
    have hh0 : s₁.heap = s.heap := by rw [B.state]; rfl
    obtain ⟨t, a1, o, b1, b2, b3⟩ := body p e s m args below meth c s₁ B hml hP s₁ hh0 (Stand.of_body B)
    exact ⟨t, o, a1, b1, b2, b3⟩
/-! ===== END ===== -/
end
section
def RX0 : String := "CrossedSheet$History"
def TX0 : u_T := fun k => match k with
  | 0 => ("CrossedSheet$History", "size", "I", false)
  | 1 => ("CrossedSheet$History", "next", "I", false)
  | _ => ("CrossedSheet$History", "states", "LCrossedSheet$Shelf;", true)
def tyX0 : Nat → FieldType := fun k => match k with
  | 0 => .int
  | 1 => .int
  | _ => .object "CrossedSheet$Shelf"
abbrev wsX00 : List Cond := u_ws RX0 TX0 3
theorem nmX0 : ∀ a, a < 3 → ∀ b, b < 3 → a ≠ b → (TX0 a).2.1 ≠ (TX0 b).2.1 := by decide +kernel
theorem tyX0_ok : ∀ k, k < 3 → parseFieldDescriptor (TX0 k).2.2.1 = some (tyX0 k) := by decide +kernel
abbrev cX0_init : ByteArray := prog_2_method_1_code
def yX0_init : MethodName := ⟨RX0, "<init>", "()V"⟩
abbrev cX0_remember : ByteArray := prog_2_method_2_code
def yX0_remember : MethodName := ⟨RX0, "remember", "(LCrossedSheet$Sheet;)V"⟩
abbrev cX0_takeBack : ByteArray := prog_2_method_3_code
def yX0_takeBack : MethodName := ⟨RX0, "takeBack", "(LCrossedSheet$Sheet;)V"⟩
abbrev cX0_forget : ByteArray := prog_2_method_4_code
def yX0_forget : MethodName := ⟨RX0, "forget", "()V"⟩
def RX1 : String := "CrossedSheet$Numbers"
def TX1 : u_T := fun k => match k with
  | _ => ("CrossedSheet$Numbers", "numbers", "[I", true)
def tyX1 : Nat → FieldType := fun k => match k with
  | _ => .array .int
abbrev wsX10 : List Cond := u_ws RX1 TX1 1
theorem nmX1 : ∀ a, a < 1 → ∀ b, b < 1 → a ≠ b → (TX1 a).2.1 ≠ (TX1 b).2.1 := by decide +kernel
theorem tyX1_ok : ∀ k, k < 1 → parseFieldDescriptor (TX1 k).2.2.1 = some (tyX1 k) := by decide +kernel
abbrev cX1_init : ByteArray := prog_3_method_1_code
def yX1_init : MethodName := ⟨RX1, "<init>", "(I)V"⟩
abbrev cX1_at : ByteArray := prog_3_method_2_code
def yX1_at : MethodName := ⟨RX1, "at", "(I)I"⟩
abbrev cX1_put : ByteArray := prog_3_method_3_code
def yX1_put : MethodName := ⟨RX1, "put", "(II)V"⟩
abbrev cX1_fill : ByteArray := prog_3_method_4_code
def yX1_fill : MethodName := ⟨RX1, "fill", "(I)V"⟩
abbrev cX1_takeFrom : ByteArray := prog_3_method_5_code
def yX1_takeFrom : MethodName := ⟨RX1, "takeFrom", "(LCrossedSheet$Numbers;)V"⟩
def RX2 : String := "CrossedSheet$Reading"
def TX2 : u_T := fun k => match k with
  | 0 => ("CrossedSheet$Reading", "wordCount", "I", false)
  | 1 => ("CrossedSheet$Reading", "markCount", "I", false)
  | 2 => ("CrossedSheet$Reading", "wordsOfCells", "LCrossedSheet$Numbers;", true)
  | 3 => ("CrossedSheet$Reading", "signs", "LCrossedSheet$Numbers;", true)
  | 4 => ("CrossedSheet$Reading", "starts", "LCrossedSheet$Numbers;", true)
  | 5 => ("CrossedSheet$Reading", "signCount", "I", false)
  | 6 => ("CrossedSheet$Reading", "lastLine", "I", false)
  | 7 => ("CrossedSheet$Reading", "lastPosition", "I", false)
  | _ => ("CrossedSheet$Reading", "lastSign", "I", false)
def tyX2 : Nat → FieldType := fun k => match k with
  | 0 => .int
  | 1 => .int
  | 2 => .object "CrossedSheet$Numbers"
  | 3 => .object "CrossedSheet$Numbers"
  | 4 => .object "CrossedSheet$Numbers"
  | 5 => .int
  | 6 => .int
  | 7 => .int
  | _ => .int
abbrev wsX20 : List Cond := u_ws RX2 TX2 9
theorem nmX2 : ∀ a, a < 9 → ∀ b, b < 9 → a ≠ b → (TX2 a).2.1 ≠ (TX2 b).2.1 := by decide +kernel
theorem tyX2_ok : ∀ k, k < 9 → parseFieldDescriptor (TX2 k).2.2.1 = some (tyX2 k) := by decide +kernel
abbrev cX2_init : ByteArray := prog_4_method_1_code
def yX2_init : MethodName := ⟨RX2, "<init>", "()V"⟩
abbrev cX2_readLetter : ByteArray := prog_4_method_2_code
def yX2_readLetter : MethodName := ⟨RX2, "readLetter", "(LCrossedSheet$Sheet;II)I"⟩
abbrev cX2_goTo : ByteArray := prog_4_method_3_code
def yX2_goTo : MethodName := ⟨RX2, "goTo", "(III)V"⟩
abbrev cX2_takeSign : ByteArray := prog_4_method_4_code
def yX2_takeSign : MethodName := ⟨RX2, "takeSign", "(I)V"⟩
abbrev cX2_hasNumber : ByteArray := prog_4_method_5_code
def yX2_hasNumber : MethodName := ⟨RX2, "hasNumber", "(I)Z"⟩
abbrev cX2_lengthOf : ByteArray := prog_4_method_6_code
def yX2_lengthOf : MethodName := ⟨RX2, "lengthOf", "(I)I"⟩
abbrev cX2_signAt : ByteArray := prog_4_method_7_code
def yX2_signAt : MethodName := ⟨RX2, "signAt", "(II)I"⟩
abbrev cX2_longest : ByteArray := prog_4_method_8_code
def yX2_longest : MethodName := ⟨RX2, "longest", "()I"⟩
abbrev cX2_countSign : ByteArray := prog_4_method_9_code
def yX2_countSign : MethodName := ⟨RX2, "countSign", "(I)I"⟩
abbrev cX2_beginsWith : ByteArray := prog_4_method_10_code
def yX2_beginsWith : MethodName := ⟨RX2, "beginsWith", "(ILCrossedSheet$Numbers;I)Z"⟩
abbrev cX2_hasWord : ByteArray := prog_4_method_11_code
def yX2_hasWord : MethodName := ⟨RX2, "hasWord", "(LCrossedSheet$Reading;I)Z"⟩
abbrev cX2_isSameWord : ByteArray := prog_4_method_12_code
def yX2_isSameWord : MethodName := ⟨RX2, "isSameWord", "(ILCrossedSheet$Reading;I)Z"⟩
def RX3 : String := "CrossedSheet$Sheet"
def TX3 : u_T := fun k => match k with
  | 0 => ("CrossedSheet$Sheet", "width", "I", false)
  | 1 => ("CrossedSheet$Sheet", "height", "I", false)
  | 2 => ("CrossedSheet$Sheet", "margin", "I", false)
  | 3 => ("CrossedSheet$Sheet", "gap", "I", false)
  | 4 => ("CrossedSheet$Sheet", "letterInks", "LCrossedSheet$Numbers;", true)
  | 5 => ("CrossedSheet$Sheet", "letterSlants", "LCrossedSheet$Numbers;", true)
  | 6 => ("CrossedSheet$Sheet", "letterWays", "LCrossedSheet$Numbers;", true)
  | 7 => ("CrossedSheet$Sheet", "markCounts", "LCrossedSheet$Numbers;", true)
  | 8 => ("CrossedSheet$Sheet", "signs", "LCrossedSheet$Numbers;", true)
  | 9 => ("CrossedSheet$Sheet", "inks", "LCrossedSheet$Numbers;", true)
  | 10 => ("CrossedSheet$Sheet", "slants", "LCrossedSheet$Numbers;", true)
  | _ => ("CrossedSheet$Sheet", "decisions", "LCrossedSheet$Numbers;", true)
def tyX3 : Nat → FieldType := fun k => match k with
  | 0 => .int
  | 1 => .int
  | 2 => .int
  | 3 => .int
  | 4 => .object "CrossedSheet$Numbers"
  | 5 => .object "CrossedSheet$Numbers"
  | 6 => .object "CrossedSheet$Numbers"
  | 7 => .object "CrossedSheet$Numbers"
  | 8 => .object "CrossedSheet$Numbers"
  | 9 => .object "CrossedSheet$Numbers"
  | 10 => .object "CrossedSheet$Numbers"
  | _ => .object "CrossedSheet$Numbers"
abbrev wsX30 : List Cond := u_ws RX3 TX3 12
theorem nmX3 : ∀ a, a < 12 → ∀ b, b < 12 → a ≠ b → (TX3 a).2.1 ≠ (TX3 b).2.1 := by decide +kernel
theorem tyX3_ok : ∀ k, k < 12 → parseFieldDescriptor (TX3 k).2.2.1 = some (tyX3 k) := by decide +kernel
abbrev cX3_init : ByteArray := prog_5_method_1_code
def yX3_init : MethodName := ⟨RX3, "<init>", "()V"⟩
abbrev cX3_makeNew : ByteArray := prog_5_method_2_code
def yX3_makeNew : MethodName := ⟨RX3, "makeNew", "()V"⟩
abbrev cX3_takeFrom : ByteArray := prog_5_method_3_code
def yX3_takeFrom : MethodName := ⟨RX3, "takeFrom", "(LCrossedSheet$Sheet;)V"⟩
abbrev cX3_putSize : ByteArray := prog_5_method_4_code
def yX3_putSize : MethodName := ⟨RX3, "putSize", "(II)V"⟩
abbrev cX3_putLetter : ByteArray := prog_5_method_5_code
def yX3_putLetter : MethodName := ⟨RX3, "putLetter", "(IIII)V"⟩
abbrev cX3_putPen : ByteArray := prog_5_method_6_code
def yX3_putPen : MethodName := ⟨RX3, "putPen", "(III)V"⟩
abbrev cX3_hasCell : ByteArray := prog_5_method_7_code
def yX3_hasCell : MethodName := ⟨RX3, "hasCell", "(II)Z"⟩
abbrev cX3_marksIn : ByteArray := prog_5_method_8_code
def yX3_marksIn : MethodName := ⟨RX3, "marksIn", "(II)I"⟩
abbrev cX3_hasMark : ByteArray := prog_5_method_9_code
def yX3_hasMark : MethodName := ⟨RX3, "hasMark", "(III)Z"⟩
abbrev cX3_hasRoom : ByteArray := prog_5_method_10_code
def yX3_hasRoom : MethodName := ⟨RX3, "hasRoom", "(II)Z"⟩
abbrev cX3_columnHasRoom : ByteArray := prog_5_method_11_code
def yX3_columnHasRoom : MethodName := ⟨RX3, "columnHasRoom", "(I)Z"⟩
abbrev cX3_hasRoomAnywhere : ByteArray := prog_5_method_12_code
def yX3_hasRoomAnywhere : MethodName := ⟨RX3, "hasRoomAnywhere", "()Z"⟩
abbrev cX3_addMark : ByteArray := prog_5_method_13_code
def yX3_addMark : MethodName := ⟨RX3, "addMark", "(IIIII)V"⟩
abbrev cX3_putMark : ByteArray := prog_5_method_14_code
def yX3_putMark : MethodName := ⟨RX3, "putMark", "(IIIII)V"⟩
abbrev cX3_removeMark : ByteArray := prog_5_method_15_code
def yX3_removeMark : MethodName := ⟨RX3, "removeMark", "(III)V"⟩
abbrev cX3_otherHasDecision : ByteArray := prog_5_method_16_code
def yX3_otherHasDecision : MethodName := ⟨RX3, "otherHasDecision", "(IIII)Z"⟩
abbrev cX3_decisionOf : ByteArray := prog_5_method_17_code
def yX3_decisionOf : MethodName := ⟨RX3, "decisionOf", "(III)I"⟩
abbrev cX3_putDecision : ByteArray := prog_5_method_18_code
def yX3_putDecision : MethodName := ⟨RX3, "putDecision", "(IIII)V"⟩
abbrev cX3_firstToDecide : ByteArray := prog_5_method_19_code
def yX3_firstToDecide : MethodName := ⟨RX3, "firstToDecide", "(III)I"⟩
abbrev cX3_turnByQuarter : ByteArray := prog_5_method_20_code
def yX3_turnByQuarter : MethodName := ⟨RX3, "turnByQuarter", "(LCrossedSheet$Sheet;)V"⟩
abbrev cX3_turnCell : ByteArray := prog_5_method_21_code
def yX3_turnCell : MethodName := ⟨RX3, "turnCell", "(LCrossedSheet$Sheet;II)V"⟩
abbrev cX3_distance : ByteArray := prog_5_method_22_code
def yX3_distance : MethodName := ⟨RX3, "distance", "(II)I"⟩
abbrev cX3_leaningOf : ByteArray := prog_5_method_23_code
def yX3_leaningOf : MethodName := ⟨RX3, "leaningOf", "(II)I"⟩
abbrev cX3_ownerOfFirst : ByteArray := prog_5_method_24_code
def yX3_ownerOfFirst : MethodName := ⟨RX3, "ownerOfFirst", "(II)I"⟩
abbrev cX3_ownerOf : ByteArray := prog_5_method_25_code
def yX3_ownerOf : MethodName := ⟨RX3, "ownerOf", "(III)I"⟩
abbrev cX3_ruleOf : ByteArray := prog_5_method_26_code
def yX3_ruleOf : MethodName := ⟨RX3, "ruleOf", "(III)I"⟩
abbrev cX3_countMarks : ByteArray := prog_5_method_27_code
def yX3_countMarks : MethodName := ⟨RX3, "countMarks", "()I"⟩
abbrev cX3_countDoubtful : ByteArray := prog_5_method_28_code
def yX3_countDoubtful : MethodName := ⟨RX3, "countDoubtful", "()I"⟩
abbrev cX3_countDecided : ByteArray := prog_5_method_29_code
def yX3_countDecided : MethodName := ⟨RX3, "countDecided", "()I"⟩
abbrev cX3_countFullCells : ByteArray := prog_5_method_30_code
def yX3_countFullCells : MethodName := ⟨RX3, "countFullCells", "()I"⟩
def RX4 : String := "CrossedSheet$Shelf"
def TX4 : u_T := fun k => match k with
  | 0 => ("CrossedSheet$Shelf", "sheets", "[LCrossedSheet$Sheet;", true)
  | _ => ("CrossedSheet$Shelf", "filled", "LCrossedSheet$Numbers;", true)
def tyX4 : Nat → FieldType := fun k => match k with
  | 0 => .array (.object "CrossedSheet$Sheet")
  | _ => .object "CrossedSheet$Numbers"
abbrev wsX40 : List Cond := u_ws RX4 TX4 2
theorem nmX4 : ∀ a, a < 2 → ∀ b, b < 2 → a ≠ b → (TX4 a).2.1 ≠ (TX4 b).2.1 := by decide +kernel
theorem tyX4_ok : ∀ k, k < 2 → parseFieldDescriptor (TX4 k).2.2.1 = some (tyX4 k) := by decide +kernel
abbrev cX4_init : ByteArray := prog_6_method_1_code
def yX4_init : MethodName := ⟨RX4, "<init>", "(I)V"⟩
abbrev cX4_holds : ByteArray := prog_6_method_2_code
def yX4_holds : MethodName := ⟨RX4, "holds", "(I)Z"⟩
abbrev cX4_store : ByteArray := prog_6_method_3_code
def yX4_store : MethodName := ⟨RX4, "store", "(ILCrossedSheet$Sheet;)V"⟩
abbrev cX4_fetch : ByteArray := prog_6_method_4_code
def yX4_fetch : MethodName := ⟨RX4, "fetch", "(ILCrossedSheet$Sheet;)V"⟩
abbrev cX4_clear : ByteArray := prog_6_method_5_code
def yX4_clear : MethodName := ⟨RX4, "clear", "()V"⟩
abbrev cX4_sheetAt : ByteArray := prog_6_method_6_code
def yX4_sheetAt : MethodName := ⟨RX4, "sheetAt", "(I)LCrossedSheet$Sheet;"⟩
def RX5 : String := "CrossedSheet$TextReader"
def TX5 : u_T := fun k => match k with
  | 0 => ("CrossedSheet$TextReader", "awaited", "I", false)
  | 1 => ("CrossedSheet$TextReader", "column", "I", false)
  | 2 => ("CrossedSheet$TextReader", "row", "I", false)
  | 3 => ("CrossedSheet$TextReader", "sign", "I", false)
  | 4 => ("CrossedSheet$TextReader", "letter", "I", false)
  | 5 => ("CrossedSheet$TextReader", "ink", "I", false)
  | _ => ("CrossedSheet$TextReader", "slant", "I", false)
def tyX5 : Nat → FieldType := fun k => match k with
  | 0 => .int
  | 1 => .int
  | 2 => .int
  | 3 => .int
  | 4 => .int
  | 5 => .int
  | _ => .int
abbrev wsX50 : List Cond := u_ws RX5 TX5 7
theorem nmX5 : ∀ a, a < 7 → ∀ b, b < 7 → a ≠ b → (TX5 a).2.1 ≠ (TX5 b).2.1 := by decide +kernel
theorem tyX5_ok : ∀ k, k < 7 → parseFieldDescriptor (TX5 k).2.2.1 = some (tyX5 k) := by decide +kernel
abbrev cX5_init : ByteArray := prog_7_method_1_code
def yX5_init : MethodName := ⟨RX5, "<init>", "()V"⟩
abbrev cX5_begin : ByteArray := prog_7_method_2_code
def yX5_begin : MethodName := ⟨RX5, "begin", "(LCrossedSheet$Sheet;)V"⟩
abbrev cX5_mayEnd : ByteArray := prog_7_method_3_code
def yX5_mayEnd : MethodName := ⟨RX5, "mayEnd", "()Z"⟩
abbrev cX5_allows : ByteArray := prog_7_method_4_code
def yX5_allows : MethodName := ⟨RX5, "allows", "(LCrossedSheet$Sheet;I)Z"⟩
abbrev cX5_take : ByteArray := prog_7_method_5_code
def yX5_take : MethodName := ⟨RX5, "take", "(LCrossedSheet$Sheet;I)V"⟩
abbrev cX5_digitOf : ByteArray := prog_7_method_6_code
def yX5_digitOf : MethodName := ⟨RX5, "digitOf", "(I)I"⟩
abbrev cX5_takeSetting : ByteArray := prog_7_method_7_code
def yX5_takeSetting : MethodName := ⟨RX5, "takeSetting", "(LCrossedSheet$Sheet;I)V"⟩
abbrev cX5_takeOfMark : ByteArray := prog_7_method_8_code
def yX5_takeOfMark : MethodName := ⟨RX5, "takeOfMark", "(LCrossedSheet$Sheet;I)V"⟩
abbrev cX5_takeOfLetter : ByteArray := prog_7_method_9_code
def yX5_takeOfLetter : MethodName := ⟨RX5, "takeOfLetter", "(LCrossedSheet$Sheet;I)V"⟩
def RX6 : String := "CrossedSheet"
def TX6 : u_T := fun k => match k with
  | 0 => ("CrossedSheet", "text", "LCrossedSheet$Numbers;", true)
  | 1 => ("CrossedSheet", "textLength", "I", false)
  | 2 => ("CrossedSheet", "textReader", "LCrossedSheet$TextReader;", true)
  | 3 => ("CrossedSheet", "present", "LCrossedSheet$Sheet;", true)
  | 4 => ("CrossedSheet", "trial", "LCrossedSheet$Sheet;", true)
  | 5 => ("CrossedSheet", "beforeTurn", "LCrossedSheet$Sheet;", true)
  | 6 => ("CrossedSheet", "history", "LCrossedSheet$History;", true)
  | 7 => ("CrossedSheet", "slots", "LCrossedSheet$Shelf;", true)
  | 8 => ("CrossedSheet", "reading", "LCrossedSheet$Reading;", true)
  | 9 => ("CrossedSheet", "otherReading", "LCrossedSheet$Reading;", true)
  | 10 => ("CrossedSheet", "wanted", "LCrossedSheet$Numbers;", true)
  | _ => ("CrossedSheet", "commands", "LCrossedSheet$Numbers;", true)
def tyX6 : Nat → FieldType := fun k => match k with
  | 0 => .object "CrossedSheet$Numbers"
  | 1 => .int
  | 2 => .object "CrossedSheet$TextReader"
  | 3 => .object "CrossedSheet$Sheet"
  | 4 => .object "CrossedSheet$Sheet"
  | 5 => .object "CrossedSheet$Sheet"
  | 6 => .object "CrossedSheet$History"
  | 7 => .object "CrossedSheet$Shelf"
  | 8 => .object "CrossedSheet$Reading"
  | 9 => .object "CrossedSheet$Reading"
  | 10 => .object "CrossedSheet$Numbers"
  | _ => .object "CrossedSheet$Numbers"
abbrev wsX60 : List Cond := u_ws RX6 TX6 12
theorem nmX6 : ∀ a, a < 12 → ∀ b, b < 12 → a ≠ b → (TX6 a).2.1 ≠ (TX6 b).2.1 := by decide +kernel
theorem tyX6_ok : ∀ k, k < 12 → parseFieldDescriptor (TX6 k).2.2.1 = some (tyX6 k) := by decide +kernel
abbrev cX6_init : ByteArray := prog_1_method_1_code
def yX6_init : MethodName := ⟨RX6, "<init>", "()V"⟩
abbrev cX6_append : ByteArray := prog_1_method_2_code
def yX6_append : MethodName := ⟨RX6, "append", "(I)I"⟩
abbrev cX6_clearText : ByteArray := prog_1_method_3_code
def yX6_clearText : MethodName := ⟨RX6, "clearText", "()I"⟩
abbrev cX6_errorPosition : ByteArray := prog_1_method_4_code
def yX6_errorPosition : MethodName := ⟨RX6, "errorPosition", "()I"⟩
abbrev cX6_load : ByteArray := prog_1_method_5_code
def yX6_load : MethodName := ⟨RX6, "load", "()I"⟩
abbrev cX6_about : ByteArray := prog_1_method_6_code
def yX6_about : MethodName := ⟨RX6, "about", "(I)I"⟩
abbrev cX6_letter : ByteArray := prog_1_method_7_code
def yX6_letter : MethodName := ⟨RX6, "letter", "(II)I"⟩
abbrev cX6_marks : ByteArray := prog_1_method_8_code
def yX6_marks : MethodName := ⟨RX6, "marks", "(II)I"⟩
abbrev cX6_mark : ByteArray := prog_1_method_9_code
def yX6_mark : MethodName := ⟨RX6, "mark", "(IIII)I"⟩
abbrev cX6_wordLength : ByteArray := prog_1_method_10_code
def yX6_wordLength : MethodName := ⟨RX6, "wordLength", "(II)I"⟩
abbrev cX6_sign : ByteArray := prog_1_method_11_code
def yX6_sign : MethodName := ⟨RX6, "sign", "(III)I"⟩
abbrev cX6_wordAt : ByteArray := prog_1_method_12_code
def yX6_wordAt : MethodName := ⟨RX6, "wordAt", "(III)I"⟩
abbrev cX6_write : ByteArray := prog_1_method_13_code
def yX6_write : MethodName := ⟨RX6, "write", "(IIIII)I"⟩
abbrev cX6_erase : ByteArray := prog_1_method_14_code
def yX6_erase : MethodName := ⟨RX6, "erase", "(III)I"⟩
abbrev cX6_decide : ByteArray := prog_1_method_15_code
def yX6_decide : MethodName := ⟨RX6, "decide", "(IIII)I"⟩
abbrev cX6_setLetter : ByteArray := prog_1_method_16_code
def yX6_setLetter : MethodName := ⟨RX6, "setLetter", "(IIII)I"⟩
abbrev cX6_setMargin : ByteArray := prog_1_method_17_code
def yX6_setMargin : MethodName := ⟨RX6, "setMargin", "(I)I"⟩
abbrev cX6_setGap : ByteArray := prog_1_method_18_code
def yX6_setGap : MethodName := ⟨RX6, "setGap", "(I)I"⟩
abbrev cX6_turn : ByteArray := prog_1_method_19_code
def yX6_turn : MethodName := ⟨RX6, "turn", "()I"⟩
abbrev cX6_undo : ByteArray := prog_1_method_20_code
def yX6_undo : MethodName := ⟨RX6, "undo", "()I"⟩
abbrev cX6_find : ByteArray := prog_1_method_21_code
def yX6_find : MethodName := ⟨RX6, "find", "(IIJ)I"⟩
abbrev cX6_shared : ByteArray := prog_1_method_22_code
def yX6_shared : MethodName := ⟨RX6, "shared", "()I"⟩
abbrev cX6_count : ByteArray := prog_1_method_23_code
def yX6_count : MethodName := ⟨RX6, "count", "(II)I"⟩
abbrev cX6_bestPen : ByteArray := prog_1_method_24_code
def yX6_bestPen : MethodName := ⟨RX6, "bestPen", "(I)I"⟩
abbrev cX6_greatestMargin : ByteArray := prog_1_method_25_code
def yX6_greatestMargin : MethodName := ⟨RX6, "greatestMargin", "()I"⟩
abbrev cX6_bestDecision : ByteArray := prog_1_method_26_code
def yX6_bestDecision : MethodName := ⟨RX6, "bestDecision", "(I)I"⟩
abbrev cX6_wordsWith : ByteArray := prog_1_method_27_code
def yX6_wordsWith : MethodName := ⟨RX6, "wordsWith", "(II)I"⟩
abbrev cX6_runScript : ByteArray := prog_1_method_28_code
def yX6_runScript : MethodName := ⟨RX6, "runScript", "(IJ)I"⟩
abbrev cX6_simulate : ByteArray := prog_1_method_29_code
def yX6_simulate : MethodName := ⟨RX6, "simulate", "(JI)I"⟩
abbrev cX6_save : ByteArray := prog_1_method_30_code
def yX6_save : MethodName := ⟨RX6, "save", "(I)I"⟩
abbrev cX6_restore : ByteArray := prog_1_method_31_code
def yX6_restore : MethodName := ⟨RX6, "restore", "(I)I"⟩
abbrev cX6_checkArgument : ByteArray := prog_1_method_32_code
def yX6_checkArgument : MethodName := ⟨RX6, "checkArgument", "(III)V"⟩
abbrev cX6_checkLetter : ByteArray := prog_1_method_33_code
def yX6_checkLetter : MethodName := ⟨RX6, "checkLetter", "(I)V"⟩
abbrev cX6_checkSlot : ByteArray := prog_1_method_34_code
def yX6_checkSlot : MethodName := ⟨RX6, "checkSlot", "(I)V"⟩
abbrev cX6_checkCell : ByteArray := prog_1_method_35_code
def yX6_checkCell : MethodName := ⟨RX6, "checkCell", "(II)V"⟩
abbrev cX6_checkMark : ByteArray := prog_1_method_36_code
def yX6_checkMark : MethodName := ⟨RX6, "checkMark", "(III)V"⟩
abbrev cX6_checkWord : ByteArray := prog_1_method_37_code
def yX6_checkWord : MethodName := ⟨RX6, "checkWord", "(I)V"⟩
abbrev cX6_isLetter : ByteArray := prog_1_method_38_code
def yX6_isLetter : MethodName := ⟨RX6, "isLetter", "(I)Z"⟩
abbrev cX6_cellOf : ByteArray := prog_1_method_39_code
def yX6_cellOf : MethodName := ⟨RX6, "cellOf", "(II)I"⟩
abbrev cX6_placeOf : ByteArray := prog_1_method_40_code
def yX6_placeOf : MethodName := ⟨RX6, "placeOf", "(III)I"⟩
abbrev cX6_remainder : ByteArray := prog_1_method_41_code
def yX6_remainder : MethodName := ⟨RX6, "remainder", "(II)I"⟩
abbrev cX6_readText : ByteArray := prog_1_method_42_code
def yX6_readText : MethodName := ⟨RX6, "readText", "()I"⟩
abbrev cX6_readPresent : ByteArray := prog_1_method_43_code
def yX6_readPresent : MethodName := ⟨RX6, "readPresent", "(I)I"⟩
abbrev cX6_splitSigns : ByteArray := prog_1_method_44_code
def yX6_splitSigns : MethodName := ⟨RX6, "splitSigns", "(IJ)Z"⟩
abbrev cX6_splitScript : ByteArray := prog_1_method_45_code
def yX6_splitScript : MethodName := ⟨RX6, "splitScript", "(IJ)Z"⟩
abbrev cX6_succeeds : ByteArray := prog_1_method_46_code
def yX6_succeeds : MethodName := ⟨RX6, "succeeds", "(I)Z"⟩
abbrev cX6_tryDecide : ByteArray := prog_1_method_47_code
def yX6_tryDecide : MethodName := ⟨RX6, "tryDecide", "(IIII)Z"⟩
abbrev cX6_tryErase : ByteArray := prog_1_method_48_code
def yX6_tryErase : MethodName := ⟨RX6, "tryErase", "(III)Z"⟩
abbrev cX6_trySetLetter : ByteArray := prog_1_method_49_code
def yX6_trySetLetter : MethodName := ⟨RX6, "trySetLetter", "(IIII)Z"⟩
abbrev cX6_trySetMargin : ByteArray := prog_1_method_50_code
def yX6_trySetMargin : MethodName := ⟨RX6, "trySetMargin", "(I)Z"⟩
abbrev cX6_tryTurn : ByteArray := prog_1_method_51_code
def yX6_tryTurn : MethodName := ⟨RX6, "tryTurn", "()Z"⟩
abbrev cX6_letterOrNone : ByteArray := prog_1_method_52_code
def yX6_letterOrNone : MethodName := ⟨RX6, "letterOrNone", "(I)I"⟩
abbrev cX6_playRound : ByteArray := prog_1_method_53_code
def yX6_playRound : MethodName := ⟨RX6, "playRound", "(I)V"⟩
def RX7 : String := "CrossedSheetModel"
def TX7 : u_T := fun k => match k with
  | 0 => ("CrossedSheetModel", "refusal", "I", false)
  | 1 => ("CrossedSheetModel", "text", "[I", true)
  | 2 => ("CrossedSheetModel", "textSize", "I", false)
  | 3 => ("CrossedSheetModel", "spot", "I", false)
  | 4 => ("CrossedSheetModel", "read", "[I", true)
  | 5 => ("CrossedSheetModel", "now", "[I", true)
  | 6 => ("CrossedSheetModel", "trial", "[I", true)
  | 7 => ("CrossedSheetModel", "other", "[I", true)
  | 8 => ("CrossedSheetModel", "diary", "[I", true)
  | 9 => ("CrossedSheetModel", "acts", "I", false)
  | 10 => ("CrossedSheetModel", "kept", "[I", true)
  | 11 => ("CrossedSheetModel", "isKept", "[Z", true)
  | 12 => ("CrossedSheetModel", "wordOf", "[I", true)
  | 13 => ("CrossedSheetModel", "begins", "[I", true)
  | 14 => ("CrossedSheetModel", "signs", "[I", true)
  | 15 => ("CrossedSheetModel", "words", "I", false)
  | 16 => ("CrossedSheetModel", "size", "I", false)
  | 17 => ("CrossedSheetModel", "starts", "[I", true)
  | _ => ("CrossedSheetModel", "first", "[I", true)
def tyX7 : Nat → FieldType := fun k => match k with
  | 0 => .int
  | 1 => .array .int
  | 2 => .int
  | 3 => .int
  | 4 => .array .int
  | 5 => .array .int
  | 6 => .array .int
  | 7 => .array .int
  | 8 => .array .int
  | 9 => .int
  | 10 => .array .int
  | 11 => .array .boolean
  | 12 => .array .int
  | 13 => .array .int
  | 14 => .array .int
  | 15 => .int
  | 16 => .int
  | 17 => .array .int
  | _ => .array .int
abbrev wsX70 : List Cond := u_ws RX7 TX7 19
theorem nmX7 : ∀ a, a < 19 → ∀ b, b < 19 → a ≠ b → (TX7 a).2.1 ≠ (TX7 b).2.1 := by decide +kernel
theorem tyX7_ok : ∀ k, k < 19 → parseFieldDescriptor (TX7 k).2.2.1 = some (tyX7 k) := by decide +kernel
abbrev cX7_init : ByteArray := prog_9_method_1_code
def yX7_init : MethodName := ⟨RX7, "<init>", "()V"⟩
abbrev cX7_thrown : ByteArray := prog_9_method_2_code
def yX7_thrown : MethodName := ⟨RX7, "thrown", "()I"⟩
abbrev cX7_refused : ByteArray := prog_9_method_3_code
def yX7_refused : MethodName := ⟨RX7, "refused", "(I)Z"⟩
abbrev cX7_in : ByteArray := prog_9_method_4_code
def yX7_in : MethodName := ⟨RX7, "in", "(JJJ)Z"⟩
abbrev cX7_copyPage : ByteArray := prog_9_method_5_code
def yX7_copyPage : MethodName := ⟨RX7, "copyPage", "([II[II)V"⟩
abbrev cX7_clear : ByteArray := prog_9_method_6_code
def yX7_clear : MethodName := ⟨RX7, "clear", "([III)V"⟩
abbrev cX7_cellAt : ByteArray := prog_9_method_7_code
def yX7_cellAt : MethodName := ⟨RX7, "cellAt", "(II)I"⟩
abbrev cX7_markAt : ByteArray := prog_9_method_8_code
def yX7_markAt : MethodName := ⟨RX7, "markAt", "(II)I"⟩
abbrev cX7_isCell : ByteArray := prog_9_method_9_code
def yX7_isCell : MethodName := ⟨RX7, "isCell", "([III)Z"⟩
abbrev cX7_isMark : ByteArray := prog_9_method_10_code
def yX7_isMark : MethodName := ⟨RX7, "isMark", "([IIII)Z"⟩
abbrev cX7_isLetter : ByteArray := prog_9_method_11_code
def yX7_isLetter : MethodName := ⟨RX7, "isLetter", "(I)Z"⟩
abbrev cX7_apart : ByteArray := prog_9_method_12_code
def yX7_apart : MethodName := ⟨RX7, "apart", "(II)I"⟩
abbrev cX7_distance : ByteArray := prog_9_method_13_code
def yX7_distance : MethodName := ⟨RX7, "distance", "([III)I"⟩
abbrev cX7_rule : ByteArray := prog_9_method_14_code
def yX7_rule : MethodName := ⟨RX7, "rule", "([IIII)I"⟩
abbrev cX7_belongs : ByteArray := prog_9_method_15_code
def yX7_belongs : MethodName := ⟨RX7, "belongs", "([III)I"⟩
abbrev cX7_doubtsBy : ByteArray := prog_9_method_16_code
def yX7_doubtsBy : MethodName := ⟨RX7, "doubtsBy", "([II)I"⟩
abbrev cX7_doubts : ByteArray := prog_9_method_17_code
def yX7_doubts : MethodName := ⟨RX7, "doubts", "([I)I"⟩
abbrev cX7_marksOf : ByteArray := prog_9_method_18_code
def yX7_marksOf : MethodName := ⟨RX7, "marksOf", "([I)I"⟩
abbrev cX7_signIn : ByteArray := prog_9_method_19_code
def yX7_signIn : MethodName := ⟨RX7, "signIn", "([III)I"⟩
abbrev cX7_layWords : ByteArray := prog_9_method_20_code
def yX7_layWords : MethodName := ⟨RX7, "layWords", "([III)I"⟩
abbrev cX7_beginWord : ByteArray := prog_9_method_21_code
def yX7_beginWord : MethodName := ⟨RX7, "beginWord", "(Z)V"⟩
abbrev cX7_layNow : ByteArray := prog_9_method_22_code
def yX7_layNow : MethodName := ⟨RX7, "layNow", "(I)I"⟩
abbrev cX7_allWords : ByteArray := prog_9_method_23_code
def yX7_allWords : MethodName := ⟨RX7, "allWords", "(LCrossedSheetModel;[I)I"⟩
abbrev cX7_writeOn : ByteArray := prog_9_method_24_code
def yX7_writeOn : MethodName := ⟨RX7, "writeOn", "([IIIII)I"⟩
abbrev cX7_eraseOn : ByteArray := prog_9_method_25_code
def yX7_eraseOn : MethodName := ⟨RX7, "eraseOn", "([III)I"⟩
abbrev cX7_canDecide : ByteArray := prog_9_method_26_code
def yX7_canDecide : MethodName := ⟨RX7, "canDecide", "([IIII)Z"⟩
abbrev cX7_decideOn : ByteArray := prog_9_method_27_code
def yX7_decideOn : MethodName := ⟨RX7, "decideOn", "([IIII)V"⟩
abbrev cX7_penOn : ByteArray := prog_9_method_28_code
def yX7_penOn : MethodName := ⟨RX7, "penOn", "([IIIII)V"⟩
abbrev cX7_turnOn : ByteArray := prog_9_method_29_code
def yX7_turnOn : MethodName := ⟨RX7, "turnOn", "([I)V"⟩
abbrev cX7_append : ByteArray := prog_9_method_30_code
def yX7_append : MethodName := ⟨RX7, "append", "(I)I"⟩
abbrev cX7_clearText : ByteArray := prog_9_method_31_code
def yX7_clearText : MethodName := ⟨RX7, "clearText", "()I"⟩
abbrev cX7_eat : ByteArray := prog_9_method_32_code
def yX7_eat : MethodName := ⟨RX7, "eat", "(I)Z"⟩
abbrev cX7_digit : ByteArray := prog_9_method_33_code
def yX7_digit : MethodName := ⟨RX7, "digit", "(II)I"⟩
abbrev cX7_readSign : ByteArray := prog_9_method_34_code
def yX7_readSign : MethodName := ⟨RX7, "readSign", "()I"⟩
abbrev cX7_hasRoom : ByteArray := prog_9_method_35_code
def yX7_hasRoom : MethodName := ⟨RX7, "hasRoom", "(I)Z"⟩
abbrev cX7_hasAnyRoom : ByteArray := prog_9_method_36_code
def yX7_hasAnyRoom : MethodName := ⟨RX7, "hasAnyRoom", "()Z"⟩
abbrev cX7_readMark : ByteArray := prog_9_method_37_code
def yX7_readMark : MethodName := ⟨RX7, "readMark", "()Z"⟩
abbrev cX7_readNumber : ByteArray := prog_9_method_38_code
def yX7_readNumber : MethodName := ⟨RX7, "readNumber", "(III)Z"⟩
abbrev cX7_readPen : ByteArray := prog_9_method_39_code
def yX7_readPen : MethodName := ⟨RX7, "readPen", "()Z"⟩
abbrev cX7_readPart : ByteArray := prog_9_method_40_code
def yX7_readPart : MethodName := ⟨RX7, "readPart", "()Z"⟩
abbrev cX7_readAll : ByteArray := prog_9_method_41_code
def yX7_readAll : MethodName := ⟨RX7, "readAll", "()Z"⟩
abbrev cX7_errorPosition : ByteArray := prog_9_method_42_code
def yX7_errorPosition : MethodName := ⟨RX7, "errorPosition", "()I"⟩
abbrev cX7_load : ByteArray := prog_9_method_43_code
def yX7_load : MethodName := ⟨RX7, "load", "()I"⟩
abbrev cX7_countOf : ByteArray := prog_9_method_44_code
def yX7_countOf : MethodName := ⟨RX7, "countOf", "(I)I"⟩
abbrev cX7_about : ByteArray := prog_9_method_45_code
def yX7_about : MethodName := ⟨RX7, "about", "(I)I"⟩
abbrev cX7_letter : ByteArray := prog_9_method_46_code
def yX7_letter : MethodName := ⟨RX7, "letter", "(II)I"⟩
abbrev cX7_marks : ByteArray := prog_9_method_47_code
def yX7_marks : MethodName := ⟨RX7, "marks", "(II)I"⟩
abbrev cX7_mark : ByteArray := prog_9_method_48_code
def yX7_mark : MethodName := ⟨RX7, "mark", "(IIII)I"⟩
abbrev cX7_isWord : ByteArray := prog_9_method_49_code
def yX7_isWord : MethodName := ⟨RX7, "isWord", "(II)Z"⟩
abbrev cX7_wordLength : ByteArray := prog_9_method_50_code
def yX7_wordLength : MethodName := ⟨RX7, "wordLength", "(II)I"⟩
abbrev cX7_sign : ByteArray := prog_9_method_51_code
def yX7_sign : MethodName := ⟨RX7, "sign", "(III)I"⟩
abbrev cX7_wordAt : ByteArray := prog_9_method_52_code
def yX7_wordAt : MethodName := ⟨RX7, "wordAt", "(III)I"⟩
abbrev cX7_note : ByteArray := prog_9_method_53_code
def yX7_note : MethodName := ⟨RX7, "note", "()V"⟩
abbrev cX7_write : ByteArray := prog_9_method_54_code
def yX7_write : MethodName := ⟨RX7, "write", "(IIIII)I"⟩
abbrev cX7_erase : ByteArray := prog_9_method_55_code
def yX7_erase : MethodName := ⟨RX7, "erase", "(III)I"⟩
abbrev cX7_decide : ByteArray := prog_9_method_56_code
def yX7_decide : MethodName := ⟨RX7, "decide", "(IIII)I"⟩
abbrev cX7_isPen : ByteArray := prog_9_method_57_code
def yX7_isPen : MethodName := ⟨RX7, "isPen", "(III)Z"⟩
abbrev cX7_setLetter : ByteArray := prog_9_method_58_code
def yX7_setLetter : MethodName := ⟨RX7, "setLetter", "(IIII)I"⟩
abbrev cX7_setMargin : ByteArray := prog_9_method_59_code
def yX7_setMargin : MethodName := ⟨RX7, "setMargin", "(I)I"⟩
abbrev cX7_setGap : ByteArray := prog_9_method_60_code
def yX7_setGap : MethodName := ⟨RX7, "setGap", "(I)I"⟩
abbrev cX7_turn : ByteArray := prog_9_method_61_code
def yX7_turn : MethodName := ⟨RX7, "turn", "()I"⟩
abbrev cX7_undo : ByteArray := prog_9_method_62_code
def yX7_undo : MethodName := ⟨RX7, "undo", "()I"⟩
abbrev cX7_power : ByteArray := prog_9_method_63_code
def yX7_power : MethodName := ⟨RX7, "power", "(I)J"⟩
abbrev cX7_areSigns : ByteArray := prog_9_method_64_code
def yX7_areSigns : MethodName := ⟨RX7, "areSigns", "(IJ)Z"⟩
abbrev cX7_beginsWith : ByteArray := prog_9_method_65_code
def yX7_beginsWith : MethodName := ⟨RX7, "beginsWith", "(IIJ)Z"⟩
abbrev cX7_find : ByteArray := prog_9_method_66_code
def yX7_find : MethodName := ⟨RX7, "find", "(IIJ)I"⟩
abbrev cX7_shared : ByteArray := prog_9_method_67_code
def yX7_shared : MethodName := ⟨RX7, "shared", "()I"⟩
abbrev cX7_count : ByteArray := prog_9_method_68_code
def yX7_count : MethodName := ⟨RX7, "count", "(II)I"⟩
abbrev cX7_bestPen : ByteArray := prog_9_method_69_code
def yX7_bestPen : MethodName := ⟨RX7, "bestPen", "(I)I"⟩
abbrev cX7_greatestMargin : ByteArray := prog_9_method_70_code
def yX7_greatestMargin : MethodName := ⟨RX7, "greatestMargin", "()I"⟩
abbrev cX7_bestDecision : ByteArray := prog_9_method_71_code
def yX7_bestDecision : MethodName := ⟨RX7, "bestDecision", "(I)I"⟩
abbrev cX7_wordsWith : ByteArray := prog_9_method_72_code
def yX7_wordsWith : MethodName := ⟨RX7, "wordsWith", "(II)I"⟩
abbrev cX7_does : ByteArray := prog_9_method_73_code
def yX7_does : MethodName := ⟨RX7, "does", "(IIIII)Z"⟩
abbrev cX7_runScript : ByteArray := prog_9_method_74_code
def yX7_runScript : MethodName := ⟨RX7, "runScript", "(IJ)I"⟩
abbrev cX7_simulate : ByteArray := prog_9_method_75_code
def yX7_simulate : MethodName := ⟨RX7, "simulate", "(JI)I"⟩
abbrev cX7_save : ByteArray := prog_9_method_76_code
def yX7_save : MethodName := ⟨RX7, "save", "(I)I"⟩
abbrev cX7_restore : ByteArray := prog_9_method_77_code
def yX7_restore : MethodName := ⟨RX7, "restore", "(I)I"⟩
def RL : String := "CrossedSheetLaw"
abbrev cL_append : ByteArray := method_3_code
def yL_append : MethodName := ⟨RL, "append", "(LCrossedSheet;I[J)I"⟩
abbrev cL_load : ByteArray := method_4_code
def yL_load : MethodName := ⟨RL, "load", "(LCrossedSheet;[J)I"⟩
abbrev cL_about : ByteArray := method_5_code
def yL_about : MethodName := ⟨RL, "about", "(LCrossedSheet;I[J)I"⟩
abbrev cL_letter : ByteArray := method_6_code
def yL_letter : MethodName := ⟨RL, "letter", "(LCrossedSheet;II[J)I"⟩
abbrev cL_marks : ByteArray := method_7_code
def yL_marks : MethodName := ⟨RL, "marks", "(LCrossedSheet;II[J)I"⟩
abbrev cL_mark : ByteArray := method_8_code
def yL_mark : MethodName := ⟨RL, "mark", "(LCrossedSheet;IIII[J)I"⟩
abbrev cL_wordLength : ByteArray := method_9_code
def yL_wordLength : MethodName := ⟨RL, "wordLength", "(LCrossedSheet;II[J)I"⟩
abbrev cL_sign : ByteArray := method_10_code
def yL_sign : MethodName := ⟨RL, "sign", "(LCrossedSheet;III[J)I"⟩
abbrev cL_wordAt : ByteArray := method_11_code
def yL_wordAt : MethodName := ⟨RL, "wordAt", "(LCrossedSheet;III[J)I"⟩
abbrev cL_write : ByteArray := method_12_code
def yL_write : MethodName := ⟨RL, "write", "(LCrossedSheet;IIIII[J)I"⟩
abbrev cL_erase : ByteArray := method_13_code
def yL_erase : MethodName := ⟨RL, "erase", "(LCrossedSheet;III[J)I"⟩
abbrev cL_decide : ByteArray := method_14_code
def yL_decide : MethodName := ⟨RL, "decide", "(LCrossedSheet;IIII[J)I"⟩
abbrev cL_setLetter : ByteArray := method_15_code
def yL_setLetter : MethodName := ⟨RL, "setLetter", "(LCrossedSheet;IIII[J)I"⟩
abbrev cL_setMargin : ByteArray := method_16_code
def yL_setMargin : MethodName := ⟨RL, "setMargin", "(LCrossedSheet;I[J)I"⟩
abbrev cL_setGap : ByteArray := method_17_code
def yL_setGap : MethodName := ⟨RL, "setGap", "(LCrossedSheet;I[J)I"⟩
abbrev cL_undo : ByteArray := method_18_code
def yL_undo : MethodName := ⟨RL, "undo", "(LCrossedSheet;[J)I"⟩
abbrev cL_find : ByteArray := method_19_code
def yL_find : MethodName := ⟨RL, "find", "(LCrossedSheet;IIJ[J)I"⟩
abbrev cL_count : ByteArray := method_20_code
def yL_count : MethodName := ⟨RL, "count", "(LCrossedSheet;II[J)I"⟩
abbrev cL_bestPen : ByteArray := method_21_code
def yL_bestPen : MethodName := ⟨RL, "bestPen", "(LCrossedSheet;I[J)I"⟩
abbrev cL_bestDecision : ByteArray := method_22_code
def yL_bestDecision : MethodName := ⟨RL, "bestDecision", "(LCrossedSheet;I[J)I"⟩
abbrev cL_wordsWith : ByteArray := method_23_code
def yL_wordsWith : MethodName := ⟨RL, "wordsWith", "(LCrossedSheet;II[J)I"⟩
abbrev cL_runScript : ByteArray := method_24_code
def yL_runScript : MethodName := ⟨RL, "runScript", "(LCrossedSheet;IJ[J)I"⟩
abbrev cL_simulate : ByteArray := method_25_code
def yL_simulate : MethodName := ⟨RL, "simulate", "(LCrossedSheet;JI[J)I"⟩
abbrev cL_save : ByteArray := method_26_code
def yL_save : MethodName := ⟨RL, "save", "(LCrossedSheet;I[J)I"⟩
abbrev cL_restore : ByteArray := method_27_code
def yL_restore : MethodName := ⟨RL, "restore", "(LCrossedSheet;I[J)I"⟩
abbrev cL_law : ByteArray := code
def yL_law : MethodName := ⟨RL, "law", "([I)Z"⟩
abbrev vwCl : List vw_C := [(RX0, TX0, 3), (RX1, TX1, 1), (RX2, TX2, 9), (RX3, TX3, 12), (RX4, TX4, 2), (RX5, TX5, 7), (RX6, TX6, 12), (RX7, TX7, 19)]
end
section
/-! A walk over one logical heap: a partial map from addresses to cells, held by the machine's heap. A method is described by a function (none: it would leave the map, or run out of its counter); the rows thread the function's value. -/
abbrev zH : Type := Nat → Option va_E
abbrev zT : Type := ClassId × ClassId × ClassId × ClassId
abbrev zX : Type := Program × Launch × Env × Room × State × MethodId × Array Value × List Frame × Method × Code × va_G × zT × Nat
abbrev xp (X : zX) : Program := X.1
abbrev xl (X : zX) : Launch := X.2.1
abbrev xe (X : zX) : Env := X.2.2.1
abbrev xR (X : zX) : Room := X.2.2.2.1
abbrev xs (X : zX) : State := X.2.2.2.2.1
abbrev xm (X : zX) : MethodId := X.2.2.2.2.2.1
abbrev xa (X : zX) : Array Value := X.2.2.2.2.2.2.1
abbrev xb (X : zX) : List Frame := X.2.2.2.2.2.2.2.1
abbrev xM (X : zX) : Method := X.2.2.2.2.2.2.2.2.1
abbrev xc (X : zX) : Code := X.2.2.2.2.2.2.2.2.2.1
abbrev xD (X : zX) : va_G := X.2.2.2.2.2.2.2.2.2.2.1
abbrev xT (X : zX) : zT := X.2.2.2.2.2.2.2.2.2.2.2.1
abbrev xlo (X : zX) : Nat := X.2.2.2.2.2.2.2.2.2.2.2.2
def TW : List Cond := lw_tbl.filter goodWord
theorem TWm {w : Cond} (i : Nat) (h : lw_tbl[i]? = some w) (g : goodWord w = true) : w ∈ TW := List.mem_filter.mpr ⟨List.mem_of_getElem? h, g⟩
theorem TWg {w : Cond} (h : w ∈ TW) : (w.onTables && w.keeps) = true ∨ ∃ ty, w = .arrayClass ty := good_of_word (List.mem_filter.mp h).2
theorem zGI {y : MethodName} {cb : ByteArray} {maxL : Nat} {ret : Option FieldType} (h : .code y cb maxL ret ∈ TW) : GoodIn TW (.code y cb maxL ret :: TW) := by
  intro w hw
  rcases List.mem_cons.mp hw with rfl | hw
  · exact ⟨h, TWg h⟩
  · exact ⟨hw, TWg hw⟩
theorem zGV {own C : String} {idx : Nat} {y : MethodName} {cb : ByteArray} {maxL : Nat} {ret : Option FieldType} (h1 : .methodLink own idx y ∈ TW) (h2 : .instanceMethod y ∈ TW) (h3 : .selects C y y ∈ TW) (h4 : .initialized C ∈ TW) (h5 : .code y cb maxL ret ∈ TW) : GoodIn TW (wsV own idx C y (.code y cb maxL ret :: TW)) := by
  intro w hw
  unfold wsV at hw
  rcases List.mem_append.mp hw with h | h
  · rcases List.mem_cons.mp h with rfl | h
    · exact ⟨h1, TWg h1⟩
    rcases List.mem_cons.mp h with rfl | h
    · exact ⟨h2, TWg h2⟩
    rcases List.mem_cons.mp h with rfl | h
    · exact ⟨h3, TWg h3⟩
    rcases List.mem_cons.mp h with rfl | h
    · exact ⟨h4, TWg h4⟩
    exact absurd h List.not_mem_nil
  · exact zGI h5 w h
theorem zGS {own : String} {idx : Nat} {y : MethodName} {cb : ByteArray} {maxL : Nat} {ret : Option FieldType} (h1 : .methodLink own idx y ∈ TW) (h2 : .static y ∈ TW) (h4 : .initialized y.cls ∈ TW) (h5 : .code y cb maxL ret ∈ TW) : GoodIn TW (va_wsS own idx y (.code y cb maxL ret :: TW)) := by
  intro w hw
  unfold va_wsS at hw
  rcases List.mem_append.mp hw with h | h
  · rcases List.mem_cons.mp h with rfl | h
    · exact ⟨h1, TWg h1⟩
    rcases List.mem_cons.mp h with rfl | h
    · exact ⟨h2, TWg h2⟩
    rcases List.mem_cons.mp h with rfl | h
    · exact ⟨h4, TWg h4⟩
    exact absurd h List.not_mem_nil
  · exact zGI h5 w h
def zty (T : zT) : List (ClassId × FieldType) := [(T.1, .int), (T.2.1, .long), (T.2.2.1, .boolean), (T.2.2.2, .object "CrossedSheet$Sheet")]
def NWl : List (String × Nat × MethodName × String) := [("CrossedSheet", 24, ⟨"CrossedSheet$TextReader", "<init>", "()V"⟩, "CrossedSheet"), ("CrossedSheet", 44, ⟨"CrossedSheet$History", "<init>", "()V"⟩, "CrossedSheet"), ("CrossedSheet", 58, ⟨"CrossedSheet$Reading", "<init>", "()V"⟩, "CrossedSheet"), ("CrossedSheet$Sheet", 79, ⟨"CrossedSheet", "cellOf", "(II)I"⟩, "CrossedSheet"), ("CrossedSheet$TextReader", 39, ⟨"CrossedSheet", "isLetter", "(I)Z"⟩, "CrossedSheet"), ("CrossedSheet$Sheet", 97, ⟨"CrossedSheet", "placeOf", "(III)I"⟩, "CrossedSheet"), ("CrossedSheet$Reading", 67, ⟨"CrossedSheet", "placeOf", "(III)I"⟩, "CrossedSheet"), ("CrossedSheet$Reading", 74, ⟨"CrossedSheet", "cellOf", "(II)I"⟩, "CrossedSheet"), ("CrossedSheet$Sheet", 109, ⟨"CrossedSheet", "isLetter", "(I)Z"⟩, "CrossedSheet"), ("CrossedSheet$Sheet", 115, ⟨"CrossedSheet", "letterOrNone", "(I)I"⟩, "CrossedSheet")]
def zN (U : State) : Prop := (∀ q ∈ NWl, va_Nw (.methodLinkNest q.1 q.2.1 q.2.2.1 q.2.2.2) U) ∧ va_AO "CrossedSheet$Sheet" U
theorem zN.same {u U : State} (h : u.vm = U.vm) (hZ : zN u) : zN U := ⟨fun q hq => va_Nw.same rfl h (hZ.1 q hq), va_AO.moved (by rw [h]; exact Vm.Alike.refl U.vm) hZ.2⟩
theorem zN.warm {u U : State} (hW : u.WarmedH U.vm) (hZ : zN u) : zN U := ⟨fun q hq => va_Nw.warmM hW (hZ.1 q hq), va_AO.moved hW.alike hZ.2⟩
/-- the machine's heap holds the map -/
def zR (D : va_G) (lo : Nat) (h : zH) (H : Heap) : Prop := ∀ (a : Nat) (x : va_E), h a = some x → lo ≤ a ∧ va_at D vwCl (a, x) H
theorem zR.one {D : va_G} {lo a : Nat} {h : zH} {H : Heap} {x : va_E} (hR : zR D lo h H) (ha : h a = some x) : va_P D vwCl [(a, x)] H := by
  intro k q hk
  have hz : k < 1 := (List.getElem?_eq_some_iff.mp hk).1
  rw [show k = 0 by omega] at hk
  cases hk
  exact (hR a x ha).2
theorem zR.lt {D : va_G} {lo a : Nat} {h : zH} {H : Heap} {x : va_E} (hR : zR D lo h H) (ha : h a = some x) : a < H.size := (hR a x ha).2.lt
theorem zR.set {D : va_G} {lo a : Nat} {h : zH} {H H1 : Heap} {x0 x : va_E} (hR : zR D lo h H) (ha : h a = some x0) (hx : va_at D vwCl (a, x) H1) (o : ∀ q : Nat, q ≠ a → H1[q]? = H[q]?) : zR D lo (va_up h a (some x)) H1 := by
  intro b y hb
  unfold va_up at hb
  by_cases e : b = a
  · subst e
    rw [if_pos rfl] at hb
    cases hb
    exact ⟨(hR _ _ ha).1, hx⟩
  · rw [if_neg e] at hb
    exact ⟨(hR _ _ hb).1, (hR _ _ hb).2.kept (o b e)⟩
theorem zR.push {D : va_G} {lo hi : Nat} {h : zH} {H H1 : Heap} {x : va_E} (hR : zR D lo h H) (hs : H.size = hi) (hl : lo ≤ hi) (hx : va_at D vwCl (hi, x) H1) (o : ∀ q : Nat, q < hi → H1[q]? = H[q]?) : zR D lo (va_up h hi (some x)) H1 := by
  intro b y hb
  unfold va_up at hb
  by_cases e : b = hi
  · subst e
    rw [if_pos rfl] at hb
    cases hb
    exact ⟨hl, hx⟩
  · rw [if_neg e] at hb
    exact ⟨(hR _ _ hb).1, (hR _ _ hb).2.kept (o b (by rw [← hs]; exact hR.lt hb))⟩
def zC (X : zX) (cc : ByteArray) (nL : Nat) (own nm : String) (ret : Option FieldType) (fr lc : Nat) : Prop :=
  (xp X).tables.exec = Jvm.exec ∧ (xc X).code = cc ∧ (xc X).maxLocals = nL ∧ (xs X).vm.findClass own = some (xm X).cls ∧ (∀ w ∈ TW, w.before (xa X) (xs X) = true) ∧ va_K (xD X) vwCl (zty (xT X)) (xs X) ∧ xlo X ≤ (xs X).heap.size ∧ (xM X).locks = false ∧ (xM X).sig.returnType = ret ∧ (xM X).name = nm ∧ fr ≤ (xR X).frames ∧ lc ≤ (xR X).locals ∧ zN (xs X)
def zW (X : zX) (nL : Nat) (Z : State → Prop) (kc ks : Nat) (al : Bool) (hi : Nat) (h : zH) (pc : Nat) (lv : List (Nat × Value)) (st : List Value) : Prop :=
  ∀ (H : Heap) (locs : List Loc) (ls : Array Slot) (cells slots : Nat), zR (xD X) (xlo X) h H → va_S (fun q => xlo X ≤ q) (xs X).heap H locs → (al = true → H.size = hi) → lv_has ls nL lv → cells + kc ≤ (xR X).cells → slots + ks ≤ (xR X).slots → W (xp X) (xl X) (xe X) (xR X) (xs X) (xm X) (xa X) (xb X) (xM X) (xc X) H locs cells slots Z (F0 (xm X) pc ls st)
/-- what a method owes: it returned r.1, and the heap holds r.2.2 -/
abbrev zRes : Type := Option Value × Nat × zH
def zQ (al : Bool) (D : va_G) (lo : Nat) (r : zRes) : Array Value → State → Outcome → State → Prop := fun _ st o t => (o = .returned r.1 ∧ zR D lo r.2.2 t.heap ∧ (al = true → t.heap.size = r.2.1)) ∧ va_F (fun q => lo ≤ q) st t
def zP (al : Bool) (D : va_G) (T : zT) (lo hi : Nat) (h : zH) : State → Prop := fun U => lo ≤ U.heap.size ∧ zR D lo h U.heap ∧ va_K D vwCl (zty T) U ∧ (al = true → U.heap.size = hi) ∧ zN U
def zM (l : Launch) (y : MethodName) (ws : List Cond) (rm : Room) (D : va_G) (T : zT) (lo : Nat) (al : Bool) (av : List Value) (hi : Nat) (h : zH) (r : zRes) : Prop :=
  Met l y ws rm (va_Pc av (zP al D T lo hi h)) (zQ al D lo r) rm.cells rm.slots (fun q => lo ≤ q)
def zZ (X : zX) (al : Bool) (r : zRes) : State → Prop := MQ (xb X) (zQ al (xD X) (xlo X) r) (xa X) (xs X) (xR X).cells (xR X).slots (fun q => xlo X ≤ q)
theorem zbind {α ρ : Type} {x : Option α} {G : α → Option ρ} {r : ρ} (h : x.bind G = some r) : ∃ v, x = some v ∧ G v = some r := by
  cases x with
  | none => cases h
  | some v => exact ⟨v, rfl, h⟩
theorem zP.calls {al : Bool} {D : va_G} {T : zT} {lo hi : Nat} {h : zH} {av : List Value} : FrameBlind (va_Pc av (zP al D T lo hi h)) := fun a U g mk q => ⟨q.1, q.2.1, q.2.2.1, va_K.moved (u := U) (U := U.calling g mk a) (Vm.Alike.refl U.vm) q.2.2.2.1, q.2.2.2.2.1, zN.same (u := U) (U := U.calling g mk a) rfl q.2.2.2.2.2⟩
/-- the entry of a method's body -/
theorem z_enter {l : Launch} {y : MethodName} {cc : ByteArray} {maxL : Nat} {ret : Option FieldType} {own nm : String} {rm : Room} {D : va_G} {T : zT} {lo : Nat} {al : Bool} {av : List Value} {hi : Nat} {h : zH} {r : zRes} {lv : List (Nat × Value)} (hy : plainName y.cls = true) (ho : y.cls = own) (hn : y.name = nm) (hl : (lg_sl av).length ≤ maxL) (hlv : lv_args 0 av = lv)
    (body : ∀ (p : Program) (e : Env) (s : State) (m : MethodId) (ar : Array Value) (below : List Frame) (meth : Method) (c : Code), zC (p, l, e, rm, s, m, ar, below, meth, c, D, T, lo) cc maxL own nm ret rm.frames rm.locals →
      zW (p, l, e, rm, s, m, ar, below, meth, c, D, T, lo) maxL (zZ (p, l, e, rm, s, m, ar, below, meth, c, D, T, lo) al r) rm.cells rm.slots al hi h 0 lv []) : zM l y (.code y cc maxL ret :: TW) rm D T lo al av hi h r := by
  unfold zM
  refine Met.ofW (cc := cc) (maxL := maxL) (ret := ret) hy rfl ?_
  intro p e s m args below meth c s₁ B hml hv
  obtain ⟨rfl, hlo, hR, hK, hal, hN⟩ := hv
  have hts := atoms_spec (ws := .code y cc maxL ret :: TW) B.pre
  have hown : s.vm.findClass own = some m.cls := ho ▸ findClass_of_methodNamed B.named
  have hnm : meth.name = nm := hn ▸ (name_of_methodNamed B.named B.method).1
  have C : zC (p, l, e, rm, s, m, av.toArray, below, meth, c, D, T, lo) cc maxL own nm ret rm.frames rm.locals := ⟨B.exec, B.bytes, hml, hown, fun w hw => hts w (List.mem_cons_of_mem _ hw), hK, hlo, B.notSynchronized, B.returns, hnm, Nat.le_refl _, Nat.le_refl _, hN⟩
  have hL := lv_entry av (n := maxL) hl
  rw [lg_entry_eq]
  rw [hlv] at hL
  exact body p e s m av.toArray below meth c C s.heap [] _ 0 0 hR va_S.rf hal hL (Nat.le_of_eq (Nat.zero_add _)) (Nat.le_of_eq (Nat.zero_add _))
section ZRows
variable {X : zX} {cc : ByteArray} {nL : Nat} {own nm : String} {ret : Option FieldType} {fr lc : Nat} {Z : State → Prop} {kc ks : Nat} {al : Bool} {hi : Nat} {h : zH} {pc : Nat} {lv : List (Nat × Value)} {st : List Value} {ρ : Type} {r : ρ}
theorem z_sub {lv' : List (Nat × Value)} (js : List Nat) (hl : lv_pick lv js = lv') (kk : zW X nL Z kc ks al hi h pc lv' st) : zW X nL Z kc ks al hi h pc lv st := fun H locs ls cells slots hR hS ha hL hc hs => kk H locs ls cells slots hR hS ha (lv_sub hL js hl) hc hs
theorem z_less {kc' ks' : Nat} (h1 : kc' ≤ kc) (h2 : ks' ≤ ks) (kk : zW X nL Z kc' ks' al hi h pc lv st) : zW X nL Z kc ks al hi h pc lv st := fun H locs ls cells slots hR hS ha hL hc hs => kk H locs ls cells slots hR hS ha hL (by omega) (by omega)
theorem z_iconst (C : zC X cc nL own nm ret fr lc) {n : Int} {v : Int32} (hd : decode cc pc = .ok (.iconst n, 1)) (hv : Int32.ofInt n = v) (kk : zW X nL Z kc ks al hi h (pc + 1) lv (.int v :: st)) : zW X nL Z kc ks al hi h (pc) lv (st) := fun H locs ls cells slots hR hS ha hL hc hs => lv_iconst C.1 C.2.1 hd hv (kk H locs ls cells slots hR hS ha hL hc hs)
theorem z_bipush (C : zC X cc nL own nm ret fr lc) {n : Int} {v : Int32} (hd : decode cc pc = .ok (.bipush n, 2)) (hv : (Int8.ofInt n).toInt32 = v) (kk : zW X nL Z kc ks al hi h (pc + 2) lv (.int v :: st)) : zW X nL Z kc ks al hi h (pc) lv (st) := fun H locs ls cells slots hR hS ha hL hc hs => lv_bipush C.1 C.2.1 hd hv (kk H locs ls cells slots hR hS ha hL hc hs)
theorem z_sipush (C : zC X cc nL own nm ret fr lc) {n : Int} {v : Int32} (hd : decode cc pc = .ok (.sipush n, 3)) (hv : (Int16.ofInt n).toInt32 = v) (kk : zW X nL Z kc ks al hi h (pc + 3) lv (.int v :: st)) : zW X nL Z kc ks al hi h (pc) lv (st) := fun H locs ls cells slots hR hS ha hL hc hs => lv_sipush C.1 C.2.1 hd hv (kk H locs ls cells slots hR hS ha hL hc hs)
theorem z_lconst (C : zC X cc nL own nm ret fr lc) {n : Fin 2} {v : Int64} (hd : decode cc pc = .ok (.lconst n, 1)) (hv : Int64.ofNat (n : Nat) = v) (kk : zW X nL Z kc ks al hi h (pc + 1) lv (.long v :: st)) : zW X nL Z kc ks al hi h (pc) lv (st) := fun H locs ls cells slots hR hS ha hL hc hs => lv_lconst C.1 C.2.1 hd hv (kk H locs ls cells slots hR hS ha hL hc hs)
theorem z_iload_n (C : zC X cc nL own nm ret fr lc) {k : Fin 4} {i : Nat} {x : Int32} (hd : decode cc pc = .ok (.iload_n k, 1)) (j : Nat) (hi2 : (k : Nat) = i) (hj : lv[j]? = some (i, .int x)) (kk : zW X nL Z kc ks al hi h (pc + 1) lv (.int x :: st)) : zW X nL Z kc ks al hi h (pc) lv (st) := fun H locs ls cells slots hR hS ha hL hc hs => lv_iload_n C.1 C.2.1 hd hi2 (lv_at hL j hj) (kk H locs ls cells slots hR hS ha hL hc hs)
theorem z_iload (C : zC X cc nL own nm ret fr lc) {i : Nat} {x : Int32} (hd : decode cc pc = .ok (.iload i, 2)) (j : Nat) (hj : lv[j]? = some (i, .int x)) (kk : zW X nL Z kc ks al hi h (pc + 2) lv (.int x :: st)) : zW X nL Z kc ks al hi h (pc) lv (st) := fun H locs ls cells slots hR hS ha hL hc hs => lv_iload C.1 C.2.1 hd (lv_at hL j hj) (kk H locs ls cells slots hR hS ha hL hc hs)
theorem z_istore_n (C : zC X cc nL own nm ret fr lc) {k : Fin 4} {i : Nat} {x : Int32} {lv' : List (Nat × Value)} (hd : decode cc pc = .ok (.istore_n k, 1)) (hi2 : (k : Nat) = i) (hn : i < nL) (hl : (i, Value.int x) :: lv.filter (fun q => !(q.1 == i) && !(q.1 + 1 == i && q.2.category == 2)) = lv') (kk : zW X nL Z kc ks al hi h (pc + 1) lv' (st)) : zW X nL Z kc ks al hi h (pc) lv (.int x :: st) := fun H locs ls cells slots hR hS ha hL hc hs => lv_istore_n C.1 C.2.1 hd hi2 hL hn hl (fun ls hL => (kk H locs ls cells slots hR hS ha hL hc hs))
theorem z_istore (C : zC X cc nL own nm ret fr lc) {i : Nat} {x : Int32} {lv' : List (Nat × Value)} (hd : decode cc pc = .ok (.istore i, 2)) (hn : i < nL) (hl : (i, Value.int x) :: lv.filter (fun q => !(q.1 == i) && !(q.1 + 1 == i && q.2.category == 2)) = lv') (kk : zW X nL Z kc ks al hi h (pc + 2) lv' (st)) : zW X nL Z kc ks al hi h (pc) lv (.int x :: st) := fun H locs ls cells slots hR hS ha hL hc hs => lv_istore C.1 C.2.1 hd hL hn hl (fun ls hL => (kk H locs ls cells slots hR hS ha hL hc hs))
theorem z_lload_n (C : zC X cc nL own nm ret fr lc) {k : Fin 4} {i : Nat} {x : Int64} (hd : decode cc pc = .ok (.lload_n k, 1)) (j : Nat) (hi2 : (k : Nat) = i) (hj : lv[j]? = some (i, .long x)) (kk : zW X nL Z kc ks al hi h (pc + 1) lv (.long x :: st)) : zW X nL Z kc ks al hi h (pc) lv (st) := fun H locs ls cells slots hR hS ha hL hc hs => lv_lload_n C.1 C.2.1 hd hi2 (lv_at hL j hj) (kk H locs ls cells slots hR hS ha hL hc hs)
theorem z_lload (C : zC X cc nL own nm ret fr lc) {i : Nat} {x : Int64} (hd : decode cc pc = .ok (.lload i, 2)) (j : Nat) (hj : lv[j]? = some (i, .long x)) (kk : zW X nL Z kc ks al hi h (pc + 2) lv (.long x :: st)) : zW X nL Z kc ks al hi h (pc) lv (st) := fun H locs ls cells slots hR hS ha hL hc hs => lv_lload C.1 C.2.1 hd (lv_at hL j hj) (kk H locs ls cells slots hR hS ha hL hc hs)
theorem z_lstore_n (C : zC X cc nL own nm ret fr lc) {k : Fin 4} {i : Nat} {x : Int64} {lv' : List (Nat × Value)} (hd : decode cc pc = .ok (.lstore_n k, 1)) (hi2 : (k : Nat) = i) (hn : i + 1 < nL) (hl : (i, Value.long x) :: lv.filter (fun q => !(q.1 == i) && (!(q.1 == i + 1) && !(q.1 + 1 == i && q.2.category == 2))) = lv') (kk : zW X nL Z kc ks al hi h (pc + 1) lv' (st)) : zW X nL Z kc ks al hi h (pc) lv (.long x :: st) := fun H locs ls cells slots hR hS ha hL hc hs => lv_lstore_n C.1 C.2.1 hd hi2 hL hn hl (fun ls hL => (kk H locs ls cells slots hR hS ha hL hc hs))
theorem z_lstore (C : zC X cc nL own nm ret fr lc) {i : Nat} {x : Int64} {lv' : List (Nat × Value)} (hd : decode cc pc = .ok (.lstore i, 2)) (hn : i + 1 < nL) (hl : (i, Value.long x) :: lv.filter (fun q => !(q.1 == i) && (!(q.1 == i + 1) && !(q.1 + 1 == i && q.2.category == 2))) = lv') (kk : zW X nL Z kc ks al hi h (pc + 2) lv' (st)) : zW X nL Z kc ks al hi h (pc) lv (.long x :: st) := fun H locs ls cells slots hR hS ha hL hc hs => lv_lstore C.1 C.2.1 hd hL hn hl (fun ls hL => (kk H locs ls cells slots hR hS ha hL hc hs))
theorem z_aload_n (C : zC X cc nL own nm ret fr lc) {k : Fin 4} {i : Nat} {x : Nat} (hd : decode cc pc = .ok (.aload_n k, 1)) (j : Nat) (hi2 : (k : Nat) = i) (hj : lv[j]? = some (i, .ref x)) (kk : zW X nL Z kc ks al hi h (pc + 1) lv (.ref x :: st)) : zW X nL Z kc ks al hi h (pc) lv (st) := fun H locs ls cells slots hR hS ha hL hc hs => lv_aload_n C.1 C.2.1 hd hi2 (lv_at hL j hj) (kk H locs ls cells slots hR hS ha hL hc hs)
theorem z_aload (C : zC X cc nL own nm ret fr lc) {i : Nat} {x : Nat} (hd : decode cc pc = .ok (.aload i, 2)) (j : Nat) (hj : lv[j]? = some (i, .ref x)) (kk : zW X nL Z kc ks al hi h (pc + 2) lv (.ref x :: st)) : zW X nL Z kc ks al hi h (pc) lv (st) := fun H locs ls cells slots hR hS ha hL hc hs => lv_aload C.1 C.2.1 hd (lv_at hL j hj) (kk H locs ls cells slots hR hS ha hL hc hs)
theorem z_astore_n (C : zC X cc nL own nm ret fr lc) {k : Fin 4} {i : Nat} {x : Nat} {lv' : List (Nat × Value)} (hd : decode cc pc = .ok (.astore_n k, 1)) (hi2 : (k : Nat) = i) (hn : i < nL) (hl : (i, Value.ref x) :: lv.filter (fun q => !(q.1 == i) && !(q.1 + 1 == i && q.2.category == 2)) = lv') (kk : zW X nL Z kc ks al hi h (pc + 1) lv' (st)) : zW X nL Z kc ks al hi h (pc) lv (.ref x :: st) := fun H locs ls cells slots hR hS ha hL hc hs => lv_astore_n C.1 C.2.1 hd hi2 hL hn hl (fun ls hL => (kk H locs ls cells slots hR hS ha hL hc hs))
theorem z_astore (C : zC X cc nL own nm ret fr lc) {i : Nat} {x : Nat} {lv' : List (Nat × Value)} (hd : decode cc pc = .ok (.astore i, 2)) (hn : i < nL) (hl : (i, Value.ref x) :: lv.filter (fun q => !(q.1 == i) && !(q.1 + 1 == i && q.2.category == 2)) = lv') (kk : zW X nL Z kc ks al hi h (pc + 2) lv' (st)) : zW X nL Z kc ks al hi h (pc) lv (.ref x :: st) := fun H locs ls cells slots hR hS ha hL hc hs => lv_astore C.1 C.2.1 hd hL hn hl (fun ls hL => (kk H locs ls cells slots hR hS ha hL hc hs))
theorem z_iinc (C : zC X cc nL own nm ret fr lc) {i k : Nat} {n : Int} {x d : Int32} {lv' : List (Nat × Value)} (hd : decode cc pc = .ok (.iinc i n, 3)) (hk : lv[k]? = some (i, .int x)) (hv : Int32.ofInt n = d) (hn : i < nL) (hl : (i, Value.int (x + d)) :: lv.filter (fun q => !(q.1 == i) && !(q.1 + 1 == i && q.2.category == 2)) = lv') (kk : zW X nL Z kc ks al hi h (pc + 3) lv' (st)) : zW X nL Z kc ks al hi h (pc) lv (st) := fun H locs ls cells slots hR hS ha hL hc hs => lv_iinc C.1 C.2.1 hd hL hk (by rw [hv]) hn hl (fun ls hL => (kk H locs ls cells slots hR hS ha hL hc hs))
theorem z_iadd (C : zC X cc nL own nm ret fr lc) {x y : Int32} (hd : decode cc pc = .ok (.iadd, 1))  (kk : zW X nL Z kc ks al hi h (pc + 1) lv (.int (x + y) :: st)) : zW X nL Z kc ks al hi h (pc) lv (.int y :: .int x :: st) := fun H locs ls cells slots hR hS ha hL hc hs => lv_iadd C.1 C.2.1 hd (kk H locs ls cells slots hR hS ha hL hc hs)
theorem z_isub (C : zC X cc nL own nm ret fr lc) {x y : Int32} (hd : decode cc pc = .ok (.isub, 1))  (kk : zW X nL Z kc ks al hi h (pc + 1) lv (.int (x - y) :: st)) : zW X nL Z kc ks al hi h (pc) lv (.int y :: .int x :: st) := fun H locs ls cells slots hR hS ha hL hc hs => lv_isub C.1 C.2.1 hd (kk H locs ls cells slots hR hS ha hL hc hs)
theorem z_imul (C : zC X cc nL own nm ret fr lc) {x y : Int32} (hd : decode cc pc = .ok (.imul, 1))  (kk : zW X nL Z kc ks al hi h (pc + 1) lv (.int (x * y) :: st)) : zW X nL Z kc ks al hi h (pc) lv (.int y :: .int x :: st) := fun H locs ls cells slots hR hS ha hL hc hs => lv_imul C.1 C.2.1 hd (kk H locs ls cells slots hR hS ha hL hc hs)
theorem z_iand (C : zC X cc nL own nm ret fr lc) {x y : Int32} (hd : decode cc pc = .ok (.iand, 1))  (kk : zW X nL Z kc ks al hi h (pc + 1) lv (.int (x &&& y) :: st)) : zW X nL Z kc ks al hi h (pc) lv (.int y :: .int x :: st) := fun H locs ls cells slots hR hS ha hL hc hs => lv_iand C.1 C.2.1 hd (kk H locs ls cells slots hR hS ha hL hc hs)
theorem z_ior (C : zC X cc nL own nm ret fr lc) {x y : Int32} (hd : decode cc pc = .ok (.ior, 1))  (kk : zW X nL Z kc ks al hi h (pc + 1) lv (.int (x ||| y) :: st)) : zW X nL Z kc ks al hi h (pc) lv (.int y :: .int x :: st) := fun H locs ls cells slots hR hS ha hL hc hs => lv_ior C.1 C.2.1 hd (kk H locs ls cells slots hR hS ha hL hc hs)
theorem z_ladd (C : zC X cc nL own nm ret fr lc) {x y : Int64} (hd : decode cc pc = .ok (.ladd, 1))  (kk : zW X nL Z kc ks al hi h (pc + 1) lv (.long (x + y) :: st)) : zW X nL Z kc ks al hi h (pc) lv (.long y :: .long x :: st) := fun H locs ls cells slots hR hS ha hL hc hs => lv_ladd C.1 C.2.1 hd (kk H locs ls cells slots hR hS ha hL hc hs)
theorem z_lsub (C : zC X cc nL own nm ret fr lc) {x y : Int64} (hd : decode cc pc = .ok (.lsub, 1))  (kk : zW X nL Z kc ks al hi h (pc + 1) lv (.long (x - y) :: st)) : zW X nL Z kc ks al hi h (pc) lv (.long y :: .long x :: st) := fun H locs ls cells slots hR hS ha hL hc hs => lv_lsub C.1 C.2.1 hd (kk H locs ls cells slots hR hS ha hL hc hs)
theorem z_lmul (C : zC X cc nL own nm ret fr lc) {x y : Int64} (hd : decode cc pc = .ok (.lmul, 1))  (kk : zW X nL Z kc ks al hi h (pc + 1) lv (.long (x * y) :: st)) : zW X nL Z kc ks al hi h (pc) lv (.long y :: .long x :: st) := fun H locs ls cells slots hR hS ha hL hc hs => lv_lmul C.1 C.2.1 hd (kk H locs ls cells slots hR hS ha hL hc hs)
theorem z_land (C : zC X cc nL own nm ret fr lc) {x y : Int64} (hd : decode cc pc = .ok (.land, 1))  (kk : zW X nL Z kc ks al hi h (pc + 1) lv (.long (x &&& y) :: st)) : zW X nL Z kc ks al hi h (pc) lv (.long y :: .long x :: st) := fun H locs ls cells slots hR hS ha hL hc hs => lv_land C.1 C.2.1 hd (kk H locs ls cells slots hR hS ha hL hc hs)
theorem z_lor (C : zC X cc nL own nm ret fr lc) {x y : Int64} (hd : decode cc pc = .ok (.lor, 1))  (kk : zW X nL Z kc ks al hi h (pc + 1) lv (.long (x ||| y) :: st)) : zW X nL Z kc ks al hi h (pc) lv (.long y :: .long x :: st) := fun H locs ls cells slots hR hS ha hL hc hs => lv_lor C.1 C.2.1 hd (kk H locs ls cells slots hR hS ha hL hc hs)
theorem z_ineg (C : zC X cc nL own nm ret fr lc) {x : Int32} (hd : decode cc pc = .ok (.ineg, 1))  (kk : zW X nL Z kc ks al hi h (pc + 1) lv (.int (-x) :: st)) : zW X nL Z kc ks al hi h (pc) lv (.int x :: st) := fun H locs ls cells slots hR hS ha hL hc hs => lv_ineg C.1 C.2.1 hd (kk H locs ls cells slots hR hS ha hL hc hs)
theorem z_i2l (C : zC X cc nL own nm ret fr lc) {x : Int32} (hd : decode cc pc = .ok (.i2l, 1))  (kk : zW X nL Z kc ks al hi h (pc + 1) lv (.long x.toInt64 :: st)) : zW X nL Z kc ks al hi h (pc) lv (.int x :: st) := fun H locs ls cells slots hR hS ha hL hc hs => lv_i2l C.1 C.2.1 hd rfl (kk H locs ls cells slots hR hS ha hL hc hs)
theorem z_l2i (C : zC X cc nL own nm ret fr lc) {x : Int64} (hd : decode cc pc = .ok (.l2i, 1))  (kk : zW X nL Z kc ks al hi h (pc + 1) lv (.int x.toInt32 :: st)) : zW X nL Z kc ks al hi h (pc) lv (.long x :: st) := fun H locs ls cells slots hR hS ha hL hc hs => lv_l2i C.1 C.2.1 hd rfl (kk H locs ls cells slots hR hS ha hL hc hs)
def zdivI (x y : Int32) : Option Int32 := if y = 0 then none else some (x / y)
def zremI (x y : Int32) : Option Int32 := if y = 0 then none else some (x - x / y * y)
def zdivL (x y : Int64) : Option Int64 := if y = 0 then none else some (x / y)
def zremL (x y : Int64) : Option Int64 := if y = 0 then none else some (x - x / y * y)
def zlushr (x : Int64) (y : Int32) : Int64 := (x.toUInt64 >>> (y.toInt64.toUInt64 &&& Int64.toUInt64 63)).toInt64
def zlshl (x : Int64) (y : Int32) : Int64 := x <<< (y.toInt64 &&& 63)
theorem z_lushr (C : zC X cc nL own nm ret fr lc) {x : Int64} {y : Int32} (hd : decode cc pc = .ok (.lushr, 1)) (kk : zW X nL Z kc ks al hi h (pc + 1) lv (.long (zlushr x y) :: st)) : zW X nL Z kc ks al hi h (pc) lv (.int y :: .long x :: st) := fun H locs ls cells slots hR hS ha hL hc hs => lv_lushr C.1 C.2.1 hd rfl (kk H locs ls cells slots hR hS ha hL hc hs)
theorem z_lshl (C : zC X cc nL own nm ret fr lc) {x : Int64} {y : Int32} (hd : decode cc pc = .ok (.lshl, 1)) (kk : zW X nL Z kc ks al hi h (pc + 1) lv (.long (zlshl x y) :: st)) : zW X nL Z kc ks al hi h (pc) lv (.int y :: .long x :: st) := fun H locs ls cells slots hR hS ha hL hc hs => lv_lshl C.1 C.2.1 hd rfl (kk H locs ls cells slots hR hS ha hL hc hs)
theorem z_idiv (C : zC X cc nL own nm ret fr lc) {x y : Int32} {G : Int32 → Option ρ} (hd : decode cc pc = .ok (.idiv, 1)) (hf : (zdivI x y).bind G = some r) (kk : ∀ v, zdivI x y = some v → G v = some r → zW X nL Z kc ks al hi h (pc + 1) lv (.int v :: st)) : zW X nL Z kc ks al hi h (pc) lv (.int y :: .int x :: st) := by
  obtain ⟨v, h1, h2⟩ := zbind hf
  have kk := kk v h1 h2
  unfold zdivI at h1
  by_cases h0 : y = 0
  · rw [if_pos h0] at h1; cases h1
  · rw [if_neg h0] at h1; cases h1
    exact fun H locs ls cells slots hR hS ha hL hc hs => lv_idiv C.1 C.2.1 hd h0 (kk H locs ls cells slots hR hS ha hL hc hs)
theorem z_irem (C : zC X cc nL own nm ret fr lc) {x y : Int32} {G : Int32 → Option ρ} (hd : decode cc pc = .ok (.irem, 1)) (hf : (zremI x y).bind G = some r) (kk : ∀ v, zremI x y = some v → G v = some r → zW X nL Z kc ks al hi h (pc + 1) lv (.int v :: st)) : zW X nL Z kc ks al hi h (pc) lv (.int y :: .int x :: st) := by
  obtain ⟨v, h1, h2⟩ := zbind hf
  have kk := kk v h1 h2
  unfold zremI at h1
  by_cases h0 : y = 0
  · rw [if_pos h0] at h1; cases h1
  · rw [if_neg h0] at h1; cases h1
    exact fun H locs ls cells slots hR hS ha hL hc hs => lv_irem C.1 C.2.1 hd h0 (kk H locs ls cells slots hR hS ha hL hc hs)
theorem z_ldiv (C : zC X cc nL own nm ret fr lc) {x y : Int64} {G : Int64 → Option ρ} (hd : decode cc pc = .ok (.ldiv, 1)) (hf : (zdivL x y).bind G = some r) (kk : ∀ v, zdivL x y = some v → G v = some r → zW X nL Z kc ks al hi h (pc + 1) lv (.long v :: st)) : zW X nL Z kc ks al hi h (pc) lv (.long y :: .long x :: st) := by
  obtain ⟨v, h1, h2⟩ := zbind hf
  have kk := kk v h1 h2
  unfold zdivL at h1
  by_cases h0 : y = 0
  · rw [if_pos h0] at h1; cases h1
  · rw [if_neg h0] at h1; cases h1
    exact fun H locs ls cells slots hR hS ha hL hc hs => lv_ldiv C.1 C.2.1 hd h0 (kk H locs ls cells slots hR hS ha hL hc hs)
theorem z_lrem (C : zC X cc nL own nm ret fr lc) {x y : Int64} {G : Int64 → Option ρ} (hd : decode cc pc = .ok (.lrem, 1)) (hf : (zremL x y).bind G = some r) (kk : ∀ v, zremL x y = some v → G v = some r → zW X nL Z kc ks al hi h (pc + 1) lv (.long v :: st)) : zW X nL Z kc ks al hi h (pc) lv (.long y :: .long x :: st) := by
  obtain ⟨v, h1, h2⟩ := zbind hf
  have kk := kk v h1 h2
  unfold zremL at h1
  by_cases h0 : y = 0
  · rw [if_pos h0] at h1; cases h1
  · rw [if_neg h0] at h1; cases h1
    exact fun H locs ls cells slots hR hS ha hL hc hs => lv_lrem C.1 C.2.1 hd h0 (kk H locs ls cells slots hR hS ha hL hc hs)
theorem z_lcmp (C : zC X cc nL own nm ret fr lc) {x y : Int64} (hd : decode cc pc = .ok (.lcmp, 1)) (kk : zW X nL Z kc ks al hi h (pc + 1) lv (.int (lg_cmp x y) :: st)) : zW X nL Z kc ks al hi h (pc) lv (.long y :: .long x :: st) := fun H locs ls cells slots hR hS ha hL hc hs => W.lcmp C.1 C.2.1 hd (kk H locs ls cells slots hR hS ha hL hc hs)
theorem z_dup (C : zC X cc nL own nm ret fr lc) {v : Value} (hd : decode cc pc = .ok (.dup, 1)) (hv : v.category = 1) (kk : zW X nL Z kc ks al hi h (pc + 1) lv (v :: v :: st)) : zW X nL Z kc ks al hi h (pc) lv (v :: st) := fun H locs ls cells slots hR hS ha hL hc hs => lv_dup C.1 C.2.1 hd hv (kk H locs ls cells slots hR hS ha hL hc hs)
theorem z_pop (C : zC X cc nL own nm ret fr lc) {v : Value} (hd : decode cc pc = .ok (.pop, 1)) (hv : v.category = 1) (kk : zW X nL Z kc ks al hi h (pc + 1) lv (st)) : zW X nL Z kc ks al hi h (pc) lv (v :: st) := fun H locs ls cells slots hR hS ha hL hc hs => lv_pop C.1 C.2.1 hd hv (kk H locs ls cells slots hR hS ha hL hc hs)
theorem z_dup2 (C : zC X cc nL own nm ret fr lc) {v w : Value} (hd : decode cc pc = .ok (.dup2, 1)) (hv : v.category = 1) (hw : w.category = 1) (kk : zW X nL Z kc ks al hi h (pc + 1) lv (v :: w :: v :: w :: st)) : zW X nL Z kc ks al hi h (pc) lv (v :: w :: st) := fun H locs ls cells slots hR hS ha hL hc hs => lv_dup2_11 C.1 C.2.1 hd hv hw (kk H locs ls cells slots hR hS ha hL hc hs)
theorem z_goto (C : zC X cc nL own nm ret fr lc) {off : Int} {tgt : Nat} (hd : decode cc pc = .ok (.goto off, 3)) (ht : (pc : Int) + off = (tgt : Int)) (kk : zW X nL Z kc ks al hi h (tgt) lv (st)) : zW X nL Z kc ks al hi h (pc) lv (st) := fun H locs ls cells slots hR hS ha hL hc hs => lv_goto C.1 C.2.1 hd ht (kk H locs ls cells slots hR hS ha hL hc hs)
theorem z_if_eq (C : zC X cc nL own nm ret fr lc) {x : Int32} {off : Int} {tgt : Nat} {A B : Option ρ} (hd : decode cc pc = .ok (.ifCond .eq off, 3)) (ht : (pc : Int) + off = (tgt : Int)) (hf : (if x = 0 then A else B) = some r) (kt : A = some r → zW X nL Z kc ks al hi h (tgt) lv (st)) (kf : B = some r → zW X nL Z kc ks al hi h (pc + 3) lv (st)) : zW X nL Z kc ks al hi h (pc) lv (.int x :: st) := fun H locs ls cells slots hR hS ha hL hc hs => lv_if_eq C.1 C.2.1 hd ht (fun c => (kt (by rw [if_pos c] at hf; exact hf) H locs ls cells slots hR hS ha hL hc hs)) (fun c => (kf (by rw [if_neg c] at hf; exact hf) H locs ls cells slots hR hS ha hL hc hs))
theorem z_icmp_eq (C : zC X cc nL own nm ret fr lc) {x y : Int32} {off : Int} {tgt : Nat} {A B : Option ρ} (hd : decode cc pc = .ok (.if_icmp .eq off, 3)) (ht : (pc : Int) + off = (tgt : Int)) (hf : (if x = y then A else B) = some r) (kt : A = some r → zW X nL Z kc ks al hi h (tgt) lv (st)) (kf : B = some r → zW X nL Z kc ks al hi h (pc + 3) lv (st)) : zW X nL Z kc ks al hi h (pc) lv (.int y :: .int x :: st) := fun H locs ls cells slots hR hS ha hL hc hs => lv_icmp_eq C.1 C.2.1 hd ht (fun c => (kt (by rw [if_pos c] at hf; exact hf) H locs ls cells slots hR hS ha hL hc hs)) (fun c => (kf (by rw [if_neg c] at hf; exact hf) H locs ls cells slots hR hS ha hL hc hs))
theorem z_if_ne (C : zC X cc nL own nm ret fr lc) {x : Int32} {off : Int} {tgt : Nat} {A B : Option ρ} (hd : decode cc pc = .ok (.ifCond .ne off, 3)) (ht : (pc : Int) + off = (tgt : Int)) (hf : (if x = 0 then B else A) = some r) (kt : A = some r → zW X nL Z kc ks al hi h (tgt) lv (st)) (kf : B = some r → zW X nL Z kc ks al hi h (pc + 3) lv (st)) : zW X nL Z kc ks al hi h (pc) lv (.int x :: st) := fun H locs ls cells slots hR hS ha hL hc hs => lv_if_ne C.1 C.2.1 hd ht (fun c => (kt (by rw [if_neg c] at hf; exact hf) H locs ls cells slots hR hS ha hL hc hs)) (fun c => (kf (by rw [if_pos c] at hf; exact hf) H locs ls cells slots hR hS ha hL hc hs))
theorem z_icmp_ne (C : zC X cc nL own nm ret fr lc) {x y : Int32} {off : Int} {tgt : Nat} {A B : Option ρ} (hd : decode cc pc = .ok (.if_icmp .ne off, 3)) (ht : (pc : Int) + off = (tgt : Int)) (hf : (if x = y then B else A) = some r) (kt : A = some r → zW X nL Z kc ks al hi h (tgt) lv (st)) (kf : B = some r → zW X nL Z kc ks al hi h (pc + 3) lv (st)) : zW X nL Z kc ks al hi h (pc) lv (.int y :: .int x :: st) := fun H locs ls cells slots hR hS ha hL hc hs => lv_icmp_ne C.1 C.2.1 hd ht (fun c => (kt (by rw [if_neg c] at hf; exact hf) H locs ls cells slots hR hS ha hL hc hs)) (fun c => (kf (by rw [if_pos c] at hf; exact hf) H locs ls cells slots hR hS ha hL hc hs))
theorem z_if_lt (C : zC X cc nL own nm ret fr lc) {x : Int32} {off : Int} {tgt : Nat} {A B : Option ρ} (hd : decode cc pc = .ok (.ifCond .lt off, 3)) (ht : (pc : Int) + off = (tgt : Int)) (hf : (if x < 0 then A else B) = some r) (kt : A = some r → zW X nL Z kc ks al hi h (tgt) lv (st)) (kf : B = some r → zW X nL Z kc ks al hi h (pc + 3) lv (st)) : zW X nL Z kc ks al hi h (pc) lv (.int x :: st) := fun H locs ls cells slots hR hS ha hL hc hs => lv_if_lt C.1 C.2.1 hd ht (fun c => (kt (by rw [if_pos c] at hf; exact hf) H locs ls cells slots hR hS ha hL hc hs)) (fun c => (kf (by rw [if_neg c] at hf; exact hf) H locs ls cells slots hR hS ha hL hc hs))
theorem z_icmp_lt (C : zC X cc nL own nm ret fr lc) {x y : Int32} {off : Int} {tgt : Nat} {A B : Option ρ} (hd : decode cc pc = .ok (.if_icmp .lt off, 3)) (ht : (pc : Int) + off = (tgt : Int)) (hf : (if x < y then A else B) = some r) (kt : A = some r → zW X nL Z kc ks al hi h (tgt) lv (st)) (kf : B = some r → zW X nL Z kc ks al hi h (pc + 3) lv (st)) : zW X nL Z kc ks al hi h (pc) lv (.int y :: .int x :: st) := fun H locs ls cells slots hR hS ha hL hc hs => lv_icmp_lt C.1 C.2.1 hd ht (fun c => (kt (by rw [if_pos c] at hf; exact hf) H locs ls cells slots hR hS ha hL hc hs)) (fun c => (kf (by rw [if_neg c] at hf; exact hf) H locs ls cells slots hR hS ha hL hc hs))
theorem z_if_ge (C : zC X cc nL own nm ret fr lc) {x : Int32} {off : Int} {tgt : Nat} {A B : Option ρ} (hd : decode cc pc = .ok (.ifCond .ge off, 3)) (ht : (pc : Int) + off = (tgt : Int)) (hf : (if 0 ≤ x then A else B) = some r) (kt : A = some r → zW X nL Z kc ks al hi h (tgt) lv (st)) (kf : B = some r → zW X nL Z kc ks al hi h (pc + 3) lv (st)) : zW X nL Z kc ks al hi h (pc) lv (.int x :: st) := fun H locs ls cells slots hR hS ha hL hc hs => lv_if_ge C.1 C.2.1 hd ht (fun c => (kt (by rw [if_pos c] at hf; exact hf) H locs ls cells slots hR hS ha hL hc hs)) (fun c => (kf (by rw [if_neg c] at hf; exact hf) H locs ls cells slots hR hS ha hL hc hs))
theorem z_icmp_ge (C : zC X cc nL own nm ret fr lc) {x y : Int32} {off : Int} {tgt : Nat} {A B : Option ρ} (hd : decode cc pc = .ok (.if_icmp .ge off, 3)) (ht : (pc : Int) + off = (tgt : Int)) (hf : (if y ≤ x then A else B) = some r) (kt : A = some r → zW X nL Z kc ks al hi h (tgt) lv (st)) (kf : B = some r → zW X nL Z kc ks al hi h (pc + 3) lv (st)) : zW X nL Z kc ks al hi h (pc) lv (.int y :: .int x :: st) := fun H locs ls cells slots hR hS ha hL hc hs => lv_icmp_ge C.1 C.2.1 hd ht (fun c => (kt (by rw [if_pos c] at hf; exact hf) H locs ls cells slots hR hS ha hL hc hs)) (fun c => (kf (by rw [if_neg c] at hf; exact hf) H locs ls cells slots hR hS ha hL hc hs))
theorem z_if_gt (C : zC X cc nL own nm ret fr lc) {x : Int32} {off : Int} {tgt : Nat} {A B : Option ρ} (hd : decode cc pc = .ok (.ifCond .gt off, 3)) (ht : (pc : Int) + off = (tgt : Int)) (hf : (if 0 < x then A else B) = some r) (kt : A = some r → zW X nL Z kc ks al hi h (tgt) lv (st)) (kf : B = some r → zW X nL Z kc ks al hi h (pc + 3) lv (st)) : zW X nL Z kc ks al hi h (pc) lv (.int x :: st) := fun H locs ls cells slots hR hS ha hL hc hs => lv_if_gt C.1 C.2.1 hd ht (fun c => (kt (by rw [if_pos c] at hf; exact hf) H locs ls cells slots hR hS ha hL hc hs)) (fun c => (kf (by rw [if_neg c] at hf; exact hf) H locs ls cells slots hR hS ha hL hc hs))
theorem z_icmp_gt (C : zC X cc nL own nm ret fr lc) {x y : Int32} {off : Int} {tgt : Nat} {A B : Option ρ} (hd : decode cc pc = .ok (.if_icmp .gt off, 3)) (ht : (pc : Int) + off = (tgt : Int)) (hf : (if y < x then A else B) = some r) (kt : A = some r → zW X nL Z kc ks al hi h (tgt) lv (st)) (kf : B = some r → zW X nL Z kc ks al hi h (pc + 3) lv (st)) : zW X nL Z kc ks al hi h (pc) lv (.int y :: .int x :: st) := fun H locs ls cells slots hR hS ha hL hc hs => lv_icmp_gt C.1 C.2.1 hd ht (fun c => (kt (by rw [if_pos c] at hf; exact hf) H locs ls cells slots hR hS ha hL hc hs)) (fun c => (kf (by rw [if_neg c] at hf; exact hf) H locs ls cells slots hR hS ha hL hc hs))
theorem z_if_le (C : zC X cc nL own nm ret fr lc) {x : Int32} {off : Int} {tgt : Nat} {A B : Option ρ} (hd : decode cc pc = .ok (.ifCond .le off, 3)) (ht : (pc : Int) + off = (tgt : Int)) (hf : (if x ≤ 0 then A else B) = some r) (kt : A = some r → zW X nL Z kc ks al hi h (tgt) lv (st)) (kf : B = some r → zW X nL Z kc ks al hi h (pc + 3) lv (st)) : zW X nL Z kc ks al hi h (pc) lv (.int x :: st) := fun H locs ls cells slots hR hS ha hL hc hs => lv_if_le C.1 C.2.1 hd ht (fun c => (kt (by rw [if_pos c] at hf; exact hf) H locs ls cells slots hR hS ha hL hc hs)) (fun c => (kf (by rw [if_neg c] at hf; exact hf) H locs ls cells slots hR hS ha hL hc hs))
theorem z_icmp_le (C : zC X cc nL own nm ret fr lc) {x y : Int32} {off : Int} {tgt : Nat} {A B : Option ρ} (hd : decode cc pc = .ok (.if_icmp .le off, 3)) (ht : (pc : Int) + off = (tgt : Int)) (hf : (if x ≤ y then A else B) = some r) (kt : A = some r → zW X nL Z kc ks al hi h (tgt) lv (st)) (kf : B = some r → zW X nL Z kc ks al hi h (pc + 3) lv (st)) : zW X nL Z kc ks al hi h (pc) lv (.int y :: .int x :: st) := fun H locs ls cells slots hR hS ha hL hc hs => lv_icmp_le C.1 C.2.1 hd ht (fun c => (kt (by rw [if_pos c] at hf; exact hf) H locs ls cells slots hR hS ha hL hc hs)) (fun c => (kf (by rw [if_neg c] at hf; exact hf) H locs ls cells slots hR hS ha hL hc hs))
end ZRows
end
section
/-! reading and writing the logical heap -/
def zo (h : zH) (a ci : Nat) : Option (List Value) := match h a with
  | some (.inr (c, fs)) => if c = ci then some fs else none
  | _ => none
def zvI (v : Option Value) : Option Int32 := match v with
  | some (.int x) => some x
  | _ => none
def zvR (v : Option Value) : Option Nat := match v with
  | some (.ref x) => some x
  | _ => none
def zgi (h : zH) (a ci k : Nat) : Option Int32 := (zo h a ci).bind fun fs => zvI fs[k]?
def zgr (h : zH) (a ci k : Nat) : Option Nat := (zo h a ci).bind fun fs => zvR fs[k]?
def zpv (h : zH) (a ci k : Nat) (v : Value) : Option zH := (zo h a ci).bind fun fs => if k < fs.length then some (va_up h a (some (.inr (ci, fs.set k v)))) else none
abbrev zin (i : Int32) (n : Nat) : Prop := ¬ (i < 0 ∨ n ≤ i.toNatClampNeg)
def zai (T : zT) (h : zH) (a : Nat) (i : Int32) : Option Int32 := match h a with
  | some (.inl (c, n, .inl f)) => if c = T.1 ∧ zin i n then some (f i.toNatClampNeg) else none
  | _ => none
def zas (T : zT) (h : zH) (a : Nat) (i x : Int32) : Option zH := match h a with
  | some (.inl (c, n, .inl f)) => if c = T.1 ∧ zin i n then some (va_up h a (some (.inl (c, n, .inl (upd f i.toNatClampNeg x))))) else none
  | _ => none
def zbi (T : zT) (h : zH) (a : Nat) (i : Int32) : Option Int32 := match h a with
  | some (.inl (c, n, .inl f)) => if c = T.2.2.1 ∧ zin i n then some (f i.toNatClampNeg) else none
  | _ => none
def zbs (T : zT) (h : zH) (a : Nat) (i x : Int32) : Option zH := match h a with
  | some (.inl (c, n, .inl f)) => if c = T.2.2.1 ∧ zin i n then some (va_up h a (some (.inl (c, n, .inl (upd f i.toNatClampNeg (vp_nar .boolean x)))))) else none
  | _ => none
def zli (T : zT) (h : zH) (a : Nat) (i : Int32) : Option Int64 := match h a with
  | some (.inl (c, n, .inr (.inl f))) => if c = T.2.1 ∧ zin i n then some (f i.toNatClampNeg) else none
  | _ => none
def zls (T : zT) (h : zH) (a : Nat) (i : Int32) (x : Int64) : Option zH := match h a with
  | some (.inl (c, n, .inr (.inl f))) => if c = T.2.1 ∧ zin i n then some (va_up h a (some (.inl (c, n, .inr (.inl (vp_updL f i.toNatClampNeg x)))))) else none
  | _ => none
def zqi (T : zT) (h : zH) (a : Nat) (i : Int32) : Option (Option Nat) := match h a with
  | some (.inl (c, n, .inr (.inr (.inr (.inr f))))) => if c = T.2.2.2 ∧ zin i n then some (f i.toNatClampNeg) else none
  | _ => none
def zqs (T : zT) (h : zH) (a : Nat) (i : Int32) (v : Nat) : Option zH := match h a with
  | some (.inl (c, n, .inr (.inr (.inr (.inr f))))) => if c = T.2.2.2 ∧ zin i n ∧ zo h v 3 ≠ none then some (va_up h a (some (.inl (c, n, .inr (.inr (.inr (.inr (va_up f i.toNatClampNeg (some v))))))))) else none
  | _ => none
def zln (T : zT) (h : zH) (a : Nat) : Option Int32 := match h a with
  | some (.inl (c, n, .inl _)) => if c = T.1 then some (Int32.ofNat n) else none
  | some (.inl (c, n, .inr (.inr (.inr (.inr _))))) => if c = T.2.2.2 then some (Int32.ofNat n) else none
  | _ => none
def zcp (T : zT) (h : zH) (a0 : Nat) (sp : Int32) (a : Nat) (dp n : Int32) : Option zH := match h a0, h a with
  | some (.inl (c0, n0, .inl f)), some (.inl (c1, n1, .inl g)) => if c0 = T.1 ∧ c1 = T.1 ∧ ¬ sp < 0 ∧ ¬ dp < 0 ∧ ¬ n < 0 ∧ sp.toNatClampNeg + n.toNatClampNeg ≤ n0 ∧ dp.toNatClampNeg + n.toNatClampNeg ≤ n1 then some (va_up h a (some (.inl (c1, n1, .inl (va_cpy f g sp.toNatClampNeg dp.toNatClampNeg n.toNatClampNeg))))) else none
  | _, _ => none
theorem zo_some {h : zH} {a ci : Nat} {fs : List Value} (e : zo h a ci = some fs) : h a = some (.inr (ci, fs)) := by
  unfold zo at e
  split at e
  · rename_i c fs' he
    by_cases hc : c = ci
    · rw [if_pos hc] at e; cases e; rw [he, hc]
    · rw [if_neg hc] at e; cases e
  · cases e
theorem zo_obj {h : zH} {a ci : Nat} {fs : List Value} (e : zo h a ci = some fs) : ∃ fs, h a = some (.inr (ci, fs)) := ⟨fs, zo_some e⟩
theorem zo_of {h : zH} {a ci : Nat} {fs : List Value} (e : h a = some (.inr (ci, fs))) : zo h a ci = some fs := by
  unfold zo; rw [e]; simp
theorem zgi_some {h : zH} {a ci k : Nat} {x : Int32} (e : zgi h a ci k = some x) : ∃ fs : List Value, h a = some (.inr (ci, fs)) ∧ fs[k]? = some (.int x) := by
  obtain ⟨fs, h1, h2⟩ := zbind e
  refine ⟨fs, zo_some h1, ?_⟩
  unfold zvI at h2
  split at h2
  · rename_i y hy; cases h2; exact hy
  · cases h2
theorem zgr_some {h : zH} {a ci k : Nat} {x : Nat} (e : zgr h a ci k = some x) : ∃ fs : List Value, h a = some (.inr (ci, fs)) ∧ fs[k]? = some (.ref x) := by
  obtain ⟨fs, h1, h2⟩ := zbind e
  refine ⟨fs, zo_some h1, ?_⟩
  unfold zvR at h2
  split at h2
  · rename_i y hy; cases h2; exact hy
  · cases h2
/-- what the tables say of a field's entry of a class's pool: the k-th field of the class ci, of the type ty, final or not -/
def zF (own : String) (index ci k : Nat) (ty : FieldType) (fin : Bool) : Prop := ∃ (Cn : String) (T : u_T) (N : Nat) (ty0 : Nat → FieldType), vwCl[ci]? = some (Cn, T, N) ∧ (∀ w ∈ u_ws Cn T N, w ∈ TW) ∧ k < N ∧ Cond.fieldLink own index (T k).1 (T k).2.1 (T k).2.2.1 ∈ TW ∧ parseFieldDescriptor (T k).2.2.1 = some ty ∧ (∀ k, k < N → parseFieldDescriptor (T k).2.2.1 = some (ty0 k)) ∧ (∀ a, a < N → ∀ b, b < N → a ≠ b → (T a).2.1 ≠ (T b).2.1) ∧ (T k).2.2.2 = fin
section ZHeap
variable {X : zX} {cc : ByteArray} {nL : Nat} {own nm : String} {ret : Option FieldType} {fr lc : Nat} {Z : State → Prop} {kc ks : Nat} {al : Bool} {hi : Nat} {h : zH} {pc : Nat} {lv : List (Nat × Value)} {st : List Value} {ρ : Type} {r : ρ}
theorem zC.K (C : zC X cc nL own nm ret fr lc) : va_K (xD X) vwCl (zty (xT X)) (xs X) := C.2.2.2.2.2.1
theorem zC.W (C : zC X cc nL own nm ret fr lc) : ∀ w ∈ TW, w.before (xa X) (xs X) = true := C.2.2.2.2.1
theorem zC.o (C : zC X cc nL own nm ret fr lc) : (xs X).vm.findClass own = some (xm X).cls := C.2.2.2.1
theorem zC.l (C : zC X cc nL own nm ret fr lc) : (xc X).maxLocals = nL := C.2.2.1
theorem zC.z (C : zC X cc nL own nm ret fr lc) : xlo X ≤ (xs X).heap.size := C.2.2.2.2.2.2.1
theorem zC.s (C : zC X cc nL own nm ret fr lc) : (xM X).locks = false := C.2.2.2.2.2.2.2.1
theorem zC.rt (C : zC X cc nL own nm ret fr lc) : (xM X).sig.returnType = ret := C.2.2.2.2.2.2.2.2.1
theorem zC.n (C : zC X cc nL own nm ret fr lc) : (xM X).name = nm := C.2.2.2.2.2.2.2.2.2.1
theorem zC.f (C : zC X cc nL own nm ret fr lc) : fr ≤ (xR X).frames := C.2.2.2.2.2.2.2.2.2.2.1
theorem zC.c (C : zC X cc nL own nm ret fr lc) : lc ≤ (xR X).locals := C.2.2.2.2.2.2.2.2.2.2.2.1
theorem zC.N (C : zC X cc nL own nm ret fr lc) : zN (xs X) := C.2.2.2.2.2.2.2.2.2.2.2.2
theorem z_getV (C : zC X cc nL own nm ret fr lc) {a ci k index : Nat} {fs : List Value} {v : Value} {ty : FieldType} {fin : Bool} (hF : zF own index ci k ty fin) (ho : h a = some (.inr (ci, fs))) (hv : fs[k]? = some v) (hd : decode cc pc = .ok (.getfield index, 3)) (kk : zW X nL Z kc ks al hi h (pc + 3) lv (v :: st)) : zW X nL Z kc ks al hi h pc lv (.ref a :: st) := by
  obtain ⟨Cn, T, N, ty0, hcl, hin, hk, hw, -, -, -, -⟩ := hF
  intro H locs ls cells slots hR hS ha hL hc hs
  exact va_get (D := xD X) (ci := ci) (v := v) (C := Cn) (T := T) (N := N) C.1 C.2.1 C.W hin C.o C.K (hR.one ho) 0 rfl hcl k hk (C.W _ hw) (fun _ h9 => h9) hv hd (kk H locs ls cells slots hR hS ha hL hc hs)
theorem z_getI (C : zC X cc nL own nm ret fr lc) {a ci k index : Nat} {ty : FieldType} {fin : Bool} {G : Int32 → Option ρ} (hF : zF own index ci k ty fin) (hd : decode cc pc = .ok (.getfield index, 3)) (hf : (zgi h a ci k).bind G = some r) (kk : ∀ x, G x = some r → zW X nL Z kc ks al hi h (pc + 3) lv (.int x :: st)) : zW X nL Z kc ks al hi h pc lv (.ref a :: st) := by
  obtain ⟨x, h1, h2⟩ := zbind hf
  obtain ⟨fs, ho, hv⟩ := zgi_some h1
  exact z_getV C hF ho hv hd (kk x h2)
theorem z_getR (C : zC X cc nL own nm ret fr lc) {a ci k index : Nat} {ty : FieldType} {fin : Bool} {G : Nat → Option ρ} (hF : zF own index ci k ty fin) (hd : decode cc pc = .ok (.getfield index, 3)) (hf : (zgr h a ci k).bind G = some r) (kk : ∀ x, G x = some r → zW X nL Z kc ks al hi h (pc + 3) lv (.ref x :: st)) : zW X nL Z kc ks al hi h pc lv (.ref a :: st) := by
  obtain ⟨x, h1, h2⟩ := zbind hf
  obtain ⟨fs, ho, hv⟩ := zgr_some h1
  exact z_getV C hF ho hv hd (kk x h2)
theorem z_put (C : zC X cc nL own nm ret fr lc) {a ci k index : Nat} {ty : FieldType} {v : Value} {G : zH → Option ρ} (hF : zF own index ci k ty false) (hd : decode cc pc = .ok (.putfield index, 3)) (hn : narrow ty v = v) (hfit : fits ty v = true) (hf : (zpv h a ci k v).bind G = some r) (kk : ∀ h', G h' = some r → zW X nL Z kc ks al hi h' (pc + 3) lv st) : zW X nL Z kc ks al hi h pc lv (v :: .ref a :: st) := by
  obtain ⟨h', h1, h2⟩ := zbind hf
  obtain ⟨fs, h3, h4⟩ := zbind h1
  have kk := kk h' h2
  by_cases hl : k < fs.length
  case neg => rw [if_neg hl] at h4; cases h4
  rw [if_pos hl] at h4
  cases h4
  have ho := zo_some h3
  obtain ⟨Cn, T, N, ty0, hcl, hin, hk, hw, hd2, hty, hnm, hfin⟩ := hF
  intro H locs ls cells slots hR hS ha hL hc hs
  have hap := va_apart (own := own) C.W hin ty0 hty hnm C.K hcl
  obtain ⟨hlo, r0, g1, cell, q1, q2, q3, q4⟩ := hR a _ ho
  have hr : r0 = (Cn, T, N) := Option.some.inj (g1.symm.trans hcl)
  subst hr
  obtain ⟨hSl, hfc, kC, hkC, hkind⟩ := C.K.1 ci _ hcl
  obtain ⟨cf, kf, fi, f, hi2, hsl⟩ := hSl k hk
  have hlay := C.W _ (hin _ (u_in_lay hk))
  unfold u_lay at hlay
  rw [if_neg (by rw [hfin]; decide)] at hlay
  have hst := (u_facts hfc hkC (u_lays C.W hin hk) hi2).1
  have h6 := u_store hfc hkC hkind hlay hi2 hd2 hn hfit
  refine W.putK C.1 C.2.1 (f := f) ⟨C.o, C.W _ hw, ⟨_, _, _, hi2⟩, hst⟩ (by rw [q2]; exact h6) q1 q3 (by rw [hsl]; exact k2_hasslot (q4 k hk)) rfl rfl hd fun H' e1 e2 e3 => ?_
  rw [hsl] at e1 ⊢
  exact kk H' _ ls cells slots (hR.set ho ⟨_, hcl, t_OB.to (V := updV (vp_V fs) k v) ⟨_, e1, q2, q3, t_set q4 hap hk v⟩ (fun j _ => vp_updV_set hl v j)⟩ e3) (hS.put e2 e3 hlo) (fun t => e2.trans (ha t)) hL hc hs
/-- a final field, in its class's constructor -/
theorem z_putF (C : zC X cc nL own nm ret fr lc) {a ci k index : Nat} {ty : FieldType} {v : Value} {G : zH → Option ρ} (hF : zF own index ci k ty true) (hnm2 : nm = "<init>") (hdecl : ∀ Cn T N, vwCl[ci]? = some (Cn, T, N) → (T k).1 = own) (hd : decode cc pc = .ok (.putfield index, 3)) (hn : narrow ty v = v) (hfit : fits ty v = true) (hf : (zpv h a ci k v).bind G = some r) (kk : ∀ h', G h' = some r → zW X nL Z kc ks al hi h' (pc + 3) lv st) : zW X nL Z kc ks al hi h pc lv (v :: .ref a :: st) := by
  obtain ⟨h', h1, h2⟩ := zbind hf
  obtain ⟨fs, h3, h4⟩ := zbind h1
  have kk := kk h' h2
  by_cases hl : k < fs.length
  case neg => rw [if_neg hl] at h4; cases h4
  rw [if_pos hl] at h4
  cases h4
  have ho := zo_some h3
  obtain ⟨Cn, T, N, ty0, hcl, hin, hk, hw, hd2, hty, hnm, hfin⟩ := hF
  intro H locs ls cells slots hR hS ha hL hc hs
  have hap := va_apart (own := own) C.W hin ty0 hty hnm C.K hcl
  obtain ⟨hlo, r0, g1, cell, q1, q2, q3, q4⟩ := hR a _ ho
  have hr : r0 = (Cn, T, N) := Option.some.inj (g1.symm.trans hcl)
  subst hr
  obtain ⟨hSl, hfc, kC, hkC, hkind⟩ := C.K.1 ci _ hcl
  obtain ⟨cf, kf, fi, f, hi2, hsl⟩ := hSl k hk
  have hlay := C.W _ (hin _ (u_in_lay hk))
  unfold u_lay at hlay
  rw [if_pos hfin] at hlay
  have hst := (u_facts hfc hkC (u_lays C.W hin hk) hi2).1
  have hcf : (xm X).cls = cf := by
    obtain ⟨_, _, c', _, _, _, -, -, hf', -, -, -, hown2, -⟩ := Cond.laysFinal_spec hlay
    have e1 : c' = cf := by have := hi2.symm.trans hf'; simp at this; exact this.1.symm
    rw [hdecl _ _ _ hcl] at hown2
    rw [← e1]; exact Option.some.inj (C.o.symm.trans hown2)
  have h6 := u_fits hfc hkC hkind (Or.inr hlay) hi2 hd2 hn hfit
  refine W.putFinK C.1 C.2.1 C.o (C.W _ hw) hi2 hst hcf (C.n.trans hnm2) (by rw [q2]; exact h6) q1 q3 (by rw [hsl]; exact k2_hasslot (q4 k hk)) rfl rfl hd fun H' e1 e2 e3 => ?_
  rw [hsl] at e1 ⊢
  exact kk H' _ ls cells slots (hR.set ho ⟨_, hcl, t_OB.to (V := updV (vp_V fs) k v) ⟨_, e1, q2, q3, t_set q4 hap hk v⟩ (fun j _ => vp_updV_set hl v j)⟩ e3) (hS.put e2 e3 hlo) (fun t => e2.trans (ha t)) hL hc hs
theorem z_iaload (C : zC X cc nL own nm ret fr lc) {a : Nat} {i : Int32} {G : Int32 → Option ρ} (hd : decode cc pc = .ok (.iaload, 1)) (hf : (zai (xT X) h a i).bind G = some r) (kk : ∀ x, G x = some r → zW X nL Z kc ks al hi h (pc + 1) lv (.int x :: st)) : zW X nL Z kc ks al hi h (pc) lv (.int i :: .ref a :: st) := by
  obtain ⟨x, h1, h2⟩ := zbind hf
  have kk := kk x h2
  unfold zai at h1
  split at h1
  · rename_i c n f he
    by_cases hcn : c = (xT X).1 ∧ zin i n
    · rw [if_pos hcn] at h1
      cases h1
      obtain ⟨rfl, hin⟩ := hcn
      exact fun H locs ls cells slots hR hS ha hL hc hs => va_iald C.1 C.2.1 C.K (hR.one he) 0 0 rfl rfl hin hd (kk H locs ls cells slots hR hS ha hL hc hs)
    · rw [if_neg hcn] at h1; cases h1
  · cases h1
theorem z_baload (C : zC X cc nL own nm ret fr lc) {a : Nat} {i : Int32} {G : Int32 → Option ρ} (hd : decode cc pc = .ok (.baload, 1)) (hf : (zbi (xT X) h a i).bind G = some r) (kk : ∀ x, G x = some r → zW X nL Z kc ks al hi h (pc + 1) lv (.int x :: st)) : zW X nL Z kc ks al hi h (pc) lv (.int i :: .ref a :: st) := by
  obtain ⟨x, h1, h2⟩ := zbind hf
  have kk := kk x h2
  unfold zbi at h1
  split at h1
  · rename_i c n f he
    by_cases hcn : c = (xT X).2.2.1 ∧ zin i n
    · rw [if_pos hcn] at h1
      cases h1
      obtain ⟨rfl, hin⟩ := hcn
      exact fun H locs ls cells slots hR hS ha hL hc hs => va_zald C.1 C.2.1 C.K (hR.one he) 0 2 rfl rfl hin hd (kk H locs ls cells slots hR hS ha hL hc hs)
    · rw [if_neg hcn] at h1; cases h1
  · cases h1
theorem z_laload (C : zC X cc nL own nm ret fr lc) {a : Nat} {i : Int32} {G : Int64 → Option ρ} (hd : decode cc pc = .ok (.laload, 1)) (hf : (zli (xT X) h a i).bind G = some r) (kk : ∀ x, G x = some r → zW X nL Z kc ks al hi h (pc + 1) lv (.long x :: st)) : zW X nL Z kc ks al hi h (pc) lv (.int i :: .ref a :: st) := by
  obtain ⟨x, h1, h2⟩ := zbind hf
  have kk := kk x h2
  unfold zli at h1
  split at h1
  · rename_i c n f he
    by_cases hcn : c = (xT X).2.1 ∧ zin i n
    · rw [if_pos hcn] at h1
      cases h1
      obtain ⟨rfl, hin⟩ := hcn
      exact fun H locs ls cells slots hR hS ha hL hc hs => va_lald C.1 C.2.1 C.K (hR.one he) 0 1 rfl rfl hin hd (kk H locs ls cells slots hR hS ha hL hc hs)
    · rw [if_neg hcn] at h1; cases h1
  · cases h1
theorem z_aaload (C : zC X cc nL own nm ret fr lc) {a : Nat} {i : Int32} {G : (Option Nat) → Option ρ} (hd : decode cc pc = .ok (.aaload, 1)) (hf : (zqi (xT X) h a i).bind G = some r) (kk : ∀ x, G x = some r → zW X nL Z kc ks al hi h (pc + 1) lv (va_rf x :: st)) : zW X nL Z kc ks al hi h (pc) lv (.int i :: .ref a :: st) := by
  obtain ⟨x, h1, h2⟩ := zbind hf
  have kk := kk x h2
  unfold zqi at h1
  split at h1
  · rename_i c n f he
    by_cases hcn : c = (xT X).2.2.2 ∧ zin i n
    · rw [if_pos hcn] at h1
      cases h1
      obtain ⟨rfl, hin⟩ := hcn
      exact fun H locs ls cells slots hR hS ha hL hc hs => va_aldq C.1 C.2.1 C.K (hR.one he) 0 3 rfl rfl hin hd (kk H locs ls cells slots hR hS ha hL hc hs)
    · rw [if_neg hcn] at h1; cases h1
  · cases h1
theorem z_iastore (C : zC X cc nL own nm ret fr lc) {a : Nat} {i : Int32} {x : Int32} {G : zH → Option ρ} (hd : decode cc pc = .ok (.iastore, 1)) (hf : (zas (xT X) h a i x).bind G = some r) (kk : ∀ h', G h' = some r → zW X nL Z kc ks al hi h' (pc + 1) lv (st)) : zW X nL Z kc ks al hi h (pc) lv (.int x :: .int i :: .ref a :: st) := by
  obtain ⟨h', h1, h2⟩ := zbind hf
  have kk := kk h' h2
  unfold zas at h1
  split at h1
  · rename_i c n f he
    by_cases hcn : c = (xT X).1 ∧ zin i n
    · rw [if_pos hcn] at h1
      cases h1
      obtain ⟨rfl, hin⟩ := hcn
      intro H locs ls cells slots hR hS ha hL hc hs
      have hat := hR a _ he
      refine W.iast C.1 C.2.1 hat.2 ((C.K.2 0 _ rfl).1 n (fun j => .int (f j))) (fun q => by cases q) (by show ¬ (i < 0 ∨ (arrV _ _ _).slots.size ≤ _); rw [arrV_size]; exact hin) rfl rfl hd fun H1 e z oq => ?_
      refine kk H1 _ ls cells slots (hR.set he ?_ oq) (hS.put z oq hat.1) (fun t => z.trans (ha t)) hL hc hs
      show H1[a]? = some (vp_cell _ _)
      rw [e]
      rw [vp_cell_i, vp_cell_i, arrV_store]
      congr 2
      funext q
      by_cases hq : q = i.toNatClampNeg
      · subst hq
        simp [updV, upd]
      · simp [updV, upd, hq]
    · rw [if_neg hcn] at h1; cases h1
  · cases h1
theorem z_bastore (C : zC X cc nL own nm ret fr lc) {a : Nat} {i : Int32} {x : Int32} {G : zH → Option ρ} (hd : decode cc pc = .ok (.bastore, 1)) (hf : (zbs (xT X) h a i x).bind G = some r) (kk : ∀ h', G h' = some r → zW X nL Z kc ks al hi h' (pc + 1) lv (st)) : zW X nL Z kc ks al hi h (pc) lv (.int x :: .int i :: .ref a :: st) := by
  obtain ⟨h', h1, h2⟩ := zbind hf
  have kk := kk h' h2
  unfold zbs at h1
  split at h1
  · rename_i c n f he
    by_cases hcn : c = (xT X).2.2.1 ∧ zin i n
    · rw [if_pos hcn] at h1
      cases h1
      obtain ⟨rfl, hin⟩ := hcn
      intro H locs ls cells slots hR hS ha hL hc hs
      have hat := hR a _ he
      refine W.zast C.1 C.2.1 hat.2 ((C.K.2 2 _ rfl).1 n (fun j => .int (f j))) (fun q => by cases q) (by show ¬ (i < 0 ∨ (arrV _ _ _).slots.size ≤ _); rw [arrV_size]; exact hin) rfl rfl hd fun H1 e z oq => ?_
      refine kk H1 _ ls cells slots (hR.set he ?_ oq) (hS.put z oq hat.1) (fun t => z.trans (ha t)) hL hc hs
      show H1[a]? = some (vp_cell _ _)
      rw [e]
      rw [vp_cell_i, vp_cell_i, arrV_store]
      congr 2
      funext q
      by_cases hq : q = i.toNatClampNeg
      · subst hq
        simp [updV, upd, vp_nar]
        try rfl
      · simp [updV, upd, hq]
    · rw [if_neg hcn] at h1; cases h1
  · cases h1
theorem z_lastore (C : zC X cc nL own nm ret fr lc) {a : Nat} {i : Int32} {x : Int64} {G : zH → Option ρ} (hd : decode cc pc = .ok (.lastore, 1)) (hf : (zls (xT X) h a i x).bind G = some r) (kk : ∀ h', G h' = some r → zW X nL Z kc ks al hi h' (pc + 1) lv (st)) : zW X nL Z kc ks al hi h (pc) lv (.long x :: .int i :: .ref a :: st) := by
  obtain ⟨h', h1, h2⟩ := zbind hf
  have kk := kk h' h2
  unfold zls at h1
  split at h1
  · rename_i c n f he
    by_cases hcn : c = (xT X).2.1 ∧ zin i n
    · rw [if_pos hcn] at h1
      cases h1
      obtain ⟨rfl, hin⟩ := hcn
      intro H locs ls cells slots hR hS ha hL hc hs
      have hat := hR a _ he
      refine W.last C.1 C.2.1 hat.2 ((C.K.2 1 _ rfl).1 n (fun j => .long (f j))) (fun q => by cases q) (by show ¬ (i < 0 ∨ (arrV _ _ _).slots.size ≤ _); rw [arrV_size]; exact hin) rfl rfl hd fun H1 e z oq => ?_
      refine kk H1 _ ls cells slots (hR.set he ?_ oq) (hS.put z oq hat.1) (fun t => z.trans (ha t)) hL hc hs
      show H1[a]? = some (vp_cell _ _)
      rw [e]
      rw [vp_cell_l, vp_cell_l, arrV_store]
      congr 2
      funext q
      by_cases hq : q = i.toNatClampNeg
      · subst hq
        simp [updV, vp_updL]
      · simp [updV, vp_updL, hq]
    · rw [if_neg hcn] at h1; cases h1
  · cases h1
theorem z_aastore (C : zC X cc nL own nm ret fr lc) {a v : Nat} {i : Int32} {G : zH → Option ρ} (hd : decode cc pc = .ok (.aastore, 1)) (hf : (zqs (xT X) h a i v).bind G = some r) (kk : ∀ h', G h' = some r → zW X nL Z kc ks al hi h' (pc + 1) lv (st)) : zW X nL Z kc ks al hi h (pc) lv (.ref v :: .int i :: .ref a :: st) := by
  obtain ⟨h', h1, h2⟩ := zbind hf
  have kk := kk h' h2
  unfold zqs at h1
  split at h1
  · rename_i c n f he
    by_cases hcn : c = (xT X).2.2.2 ∧ zin i n ∧ zo h v 3 ≠ none
    · rw [if_pos hcn] at h1
      cases h1
      obtain ⟨rfl, hin, hv3⟩ := hcn
      obtain ⟨vs, hv⟩ : ∃ vs, zo h v 3 = some vs := by
        cases hz : zo h v 3 with
        | none => exact absurd hz hv3
        | some vs => exact ⟨vs, rfl⟩
      have hv := zo_some hv
      intro H locs ls cells slots hR hS ha hL hc hs
      have hat := hR a _ he
      have hlt : i.toNatClampNeg < n := Nat.not_le.mp fun q => hin (Or.inr q)
      have h0 : ¬ i < 0 := fun q => hin (Or.inl q)
      obtain ⟨-, r', hr', cellV, g1, g2, g3, -⟩ := hR v _ hv
      have hcls := (C.K.1 3 _ rfl).2
      obtain ⟨kA, comp, k1, k2, k3, -⟩ := (C.K.2 3 _ rfl).2
      have hcomp : comp = (xD X).1 3 := Option.some.inj (k3.symm.trans hcls.1)
      subst hcomp
      obtain ⟨kC, hkC, -⟩ := hcls.2
      refine W.aast C.1 C.2.1 hat.2 (fun q h => by cases h) (fun h => by cases h) k1 k2 rfl hkC ⟨h0, by show _ < (arrV _ _ _).slots.size; rw [arrV_size]; exact hlt⟩ g1 (fun q h => by rw [g3] at h; cases h) (by rw [g2]; exact hkC) (by rw [g2]; exact va_assign hcls) rfl rfl hd fun H1 e z oq => ?_
      refine kk H1 _ ls cells slots (hR.set he ?_ oq) (hS.put z oq hat.1) (fun t => z.trans (ha t)) hL hc hs
      show H1[a]? = some (vp_cell _ _)
      rw [e]
      rw [vp_cell_q, vp_cell_q, arrV_store]
      congr 2
      funext q
      by_cases hq : q = i.toNatClampNeg
      · subst hq
        simp [updV, va_up, va_rf]
      · simp [updV, va_up, hq]
    · rw [if_neg hcn] at h1; cases h1
  · cases h1
theorem z_alen (C : zC X cc nL own nm ret fr lc) {a : Nat} {G : Int32 → Option ρ} (hd : decode cc pc = .ok (.arraylength, 1)) (hf : (zln (xT X) h a).bind G = some r) (kk : ∀ x, G x = some r → zW X nL Z kc ks al hi h (pc + 1) lv (.int x :: st)) : zW X nL Z kc ks al hi h (pc) lv (.ref a :: st) := by
  obtain ⟨x, h1, h2⟩ := zbind hf
  have kk := kk x h2
  unfold zln at h1
  split at h1
  · rename_i c n f he
    by_cases hcn : c = (xT X).1
    · rw [if_pos hcn] at h1
      cases h1
      subst hcn
      exact fun H locs ls cells slots hR hS ha hL hc hs => va_alen C.1 C.2.1 C.K (hR.one he) 0 0 rfl rfl rfl hd (kk H locs ls cells slots hR hS ha hL hc hs)
    · rw [if_neg hcn] at h1; cases h1
  · rename_i c n f he
    by_cases hcn : c = (xT X).2.2.2
    · rw [if_pos hcn] at h1
      cases h1
      subst hcn
      exact fun H locs ls cells slots hR hS ha hL hc hs => va_alen C.1 C.2.1 C.K (hR.one he) 0 3 rfl rfl rfl hd (kk H locs ls cells slots hR hS ha hL hc hs)
    · rw [if_neg hcn] at h1; cases h1
  · cases h1
end ZHeap
end
section
/-! returns, calls, new objects -/
section ZCall
variable {X : zX} {cc : ByteArray} {nL : Nat} {own nm : String} {ret : Option FieldType} {fr lc : Nat} {Z : State → Prop} {kc ks : Nat} {al : Bool} {hi : Nat} {h : zH} {pc : Nat} {lv : List (Nat × Value)} {st stk : List Value} {ρ : Type} {r : ρ}
theorem z_end {R9 : zRes} {H : Heap} {locs : List Loc} {v : Option Value} (e9 : (v, hi, h) = R9) (hR : zR (xD X) (xlo X) h H) (hS : va_S (fun q => xlo X ≤ q) (xs X).heap H locs) (ha : al = true → H.size = hi) : ∀ t : State, t.heap = H → (xs X).WarmedH t.vm → zQ al (xD X) (xlo X) R9 (xa X) (xs X) (.returned v) t := by
  subst e9
  intro t ht hW
  exact ⟨⟨rfl, by rw [ht]; exact hR, fun q => by rw [ht]; exact ha q⟩, hS.F ht⟩
theorem z_ireturn (C : zC X cc nL own nm (some .int) fr lc) {v : Int32} {R9 : zRes} (hd : decode cc pc = .ok (.ireturn, 1)) (e9 : (some (.int v), hi, h) = R9) : zW X nL (zZ X al R9) kc ks al hi h pc lv [.int v] := fun H locs ls cells slots hR hS ha hL hc hs =>
  W.widen (k := (xR X).cells) (n := (xR X).slots) (by omega) (by omega) (W.iret C.1 C.2.1 C.rt (z_end e9 hR hS ha) hS.2.2 hd C.s)
theorem z_zreturn (C : zC X cc nL own nm (some .boolean) fr lc) {v : Int32} {R9 : zRes} (hd : decode cc pc = .ok (.ireturn, 1)) (hv : v = 0 ∨ v = 1) (e9 : (some (.int v), hi, h) = R9) : zW X nL (zZ X al R9) kc ks al hi h pc lv [.int v] := fun H locs ls cells slots hR hS ha hL hc hs =>
  W.widen (k := (xR X).cells) (n := (xR X).slots) (by omega) (by omega) (W.zret C.1 C.2.1 C.rt (by rcases hv with rfl | rfl <;> rfl) (z_end e9 hR hS ha) hS.2.2 hd C.s)
theorem z_lreturn (C : zC X cc nL own nm (some .long) fr lc) {v : Int64} {R9 : zRes} (hd : decode cc pc = .ok (.lreturn, 1)) (e9 : (some (.long v), hi, h) = R9) : zW X nL (zZ X al R9) kc ks al hi h pc lv [.long v] := fun H locs ls cells slots hR hS ha hL hc hs =>
  W.widen (k := (xR X).cells) (n := (xR X).slots) (by omega) (by omega) (W.lret C.1 C.2.1 C.rt (z_end e9 hR hS ha) hS.2.2 hd C.s)
theorem z_vreturn (C : zC X cc nL own nm none fr lc) {R9 : zRes} (hd : decode cc pc = .ok (.return_, 1)) (e9 : (none, hi, h) = R9) : zW X nL (zZ X al R9) kc ks al hi h pc lv [] := fun H locs ls cells slots hR hS ha hL hc hs =>
  W.widen (k := (xR X).cells) (n := (xR X).slots) (by omega) (by omega) (W.vret C.1 C.2.1 C.rt (z_end e9 hR hS ha) hS.2.2 hd C.s)
/-- behind a call -/
theorem z_fin (C : zC X cc nL own nm ret fr lc) {H : Heap} {locs : List Loc} {ls : Array Slot} {cells slots mc ms : Nat} {v9 : Option Value} {hi' : Nat} {h' : zH} {a : Array Value} (hS : va_S (fun q => xlo X ≤ q) (xs X).heap H locs)
    (hr : va_Run (xp X) (xl X) (xe X) (xR X) (xs X) (xm X) (xa X) (xb X) (xM X) (xc X) H locs cells slots mc ms (F0 (xm X) pc ls stk) st (zQ al (xD X) (xlo X) (v9, hi', h') a) (fun q => xlo X ≤ q))
    (kk : ∀ (H1 : Heap) (locs1 : List Loc), zR (xD X) (xlo X) h' H1 → va_S (fun q => xlo X ≤ q) (xs X).heap H1 locs1 → (al = true → H1.size = hi') → W (xp X) (xl X) (xe X) (xR X) (xs X) (xm X) (xa X) (xb X) (xM X) (xc X) H1 locs1 (cells + mc) (slots + ms) Z (F0 (xm X) (pc + 3) ls (v9.toList ++ st))) :
    W (xp X) (xl X) (xe X) (xR X) (xs X) (xm X) (xa X) (xb X) (xM X) (xc X) H locs cells slots Z (F0 (xm X) pc ls stk) := by
  intro T hT X9
  obtain ⟨v, st₀, t, T', L, h0, X', hL, e1, e2, ⟨⟨hv, hRt, hat⟩, hz, hk⟩, st9⟩ := hr T hT X9
  cases hv
  rw [h0] at hz hk
  obtain ⟨t2, a1, b1⟩ := kk T'.heap (locs ++ L) (by rw [e1]; exact hRt)
    ⟨Nat.le_trans hS.1 (by rw [e1]; exact hz), fun q h1 h2 => by rw [e1, hk q (Nat.lt_of_lt_of_le h1 hS.1) h2]; exact hS.2.1 q h1 h2, fun q hq => by
      rcases List.mem_append.mp hq with h | h
      · exact hS.2.2 q h
      · exact hL q h⟩ (fun q => by rw [e1]; exact hat q) T' rfl X'
  exact ⟨t2, st9 t2 a1, b1⟩
theorem z_pre (C : zC X cc nL own nm ret fr lc) {H : Heap} {locs : List Loc} (hR : zR (xD X) (xlo X) h H) (hS : va_S (fun q => xlo X ≤ q) (xs X).heap H locs) (ha : al = true → H.size = hi) (av : List Value) : ∀ U : State, U.heap = H → (xs X).WarmedH U.vm → va_Pc av (zP al (xD X) (xT X) (xlo X) hi h) av.toArray U := fun U hU hW =>
  ⟨rfl, by rw [hU]; exact Nat.le_trans C.z hS.1, by rw [hU]; exact hR, va_K.moved hW.alike C.K, fun q => by rw [hU]; exact ha q, C.N.warm hW⟩
variable {y : MethodName} {cb : ByteArray} {maxL n index b ci kc' ks' hi' : Nat} {rty : Option FieldType} {rm : Room} {as : List Value} {v9 : Option Value} {h' : zH} {C' : String} {T' : u_T} {N' : Nat}
theorem z_callV (C : zC X cc nL own nm ret fr lc) (hM : zM (xl X) y (.code y cb maxL rty :: TW) rm (xD X) (xT X) (xlo X) al (.ref b :: as) hi h (v9, hi', h')) (hO : ∃ fs, h b = some (.inr (ci, fs))) (hcl : vwCl[ci]? = some (C', T', N')) (hG : GoodIn TW (wsV own index C' y (.code y cb maxL rty :: TW))) (hyd : y.cls = C' ∧ y.cls ≠ "java/lang/invoke/MethodHandle" ∧ y.cls ≠ "java/lang/invoke/VarHandle" ∧ (parseMethodDescriptor y.desc).map (fun d => d.parameters.length) = some n) (hd : decode cc pc = .ok (.invokevirtual index, 3)) (hn : as.length = n) (hroom : rm.frames + 1 ≤ fr ∧ 8 + (maxL + 11) + rm.locals ≤ lc) (hk : rm.cells + kc' = kc ∧ rm.slots + ks' = ks) (hw : (st.map fun v => v.category).sum ≤ 8) (hstk : stk = as.reverse ++ .ref b :: st)
    (kk : zW X nL Z kc' ks' al hi' h' (pc + 3) lv (v9.toList ++ st)) : zW X nL Z kc ks al hi h pc lv stk := by
  intro H locs ls cells slots hR hS ha hL hc hs
  obtain ⟨fs, ho⟩ := hO
  have hf := C.f
  have hlc := C.c
  refine z_fin C hS (va_runV (As := as) (rest := st) ⟨C.1, C.2.1, C.l, C.o, C.W⟩ hM (cwV n C.W hG rfl rfl rfl hyd ⟨by omega, by omega⟩) ⟨zP.calls, va_recv C.K (hR.one ho) hcl (q0 := 0) rfl, z_pre C hR hS ha (.ref b :: as)⟩ rfl hn hL.1 hstk (by show 2 * 0 + _ ≤ 8; omega) hd ⟨by omega, by omega⟩) fun H1 locs1 hR1 hS1 ha1 => ?_
  exact kk H1 locs1 ls _ _ hR1 hS1 ha1 hL (by omega) (by omega)
theorem z_callS (C : zC X cc nL own nm ret fr lc) (hM : zM (xl X) y (.code y cb maxL rty :: TW) rm (xD X) (xT X) (xlo X) al as hi h (v9, hi', h')) (hG : GoodIn TW (va_wsS own index y (.code y cb maxL rty :: TW))) (hyd : y.cls ≠ "java/lang/invoke/MethodHandle" ∧ y.cls ≠ "java/lang/invoke/VarHandle" ∧ (parseMethodDescriptor y.desc).map (fun d => d.parameters.length) = some n) (hd : decode cc pc = .ok (.invokestatic index, 3)) (hn : as.length = n) (hroom : rm.frames + 1 ≤ fr ∧ 8 + (maxL + 11) + rm.locals ≤ lc) (hk : rm.cells + kc' = kc ∧ rm.slots + ks' = ks) (hw : (st.map fun v => v.category).sum ≤ 8) (hstk : stk = as.reverse ++ st)
    (kk : zW X nL Z kc' ks' al hi' h' (pc + 3) lv (v9.toList ++ st)) : zW X nL Z kc ks al hi h pc lv stk := by
  intro H locs ls cells slots hR hS ha hL hc hs
  have hf := C.f
  have hlc := C.c
  refine z_fin C hS (va_runS (As := as) (rest := st) ⟨C.1, C.2.1, C.l, C.o, C.W⟩ hM (va_cwS n C.W hG rfl rfl rfl hyd ⟨by omega, by omega⟩) ⟨zP.calls, z_pre C hR hS ha as⟩ rfl hn hL.1 hstk (by show 2 * 0 + _ ≤ 8; omega) hd ⟨by omega, by omega⟩) fun H1 locs1 hR1 hS1 ha1 => ?_
  exact kk H1 locs1 ls _ _ hR1 hS1 ha1 hL (by omega) (by omega)
theorem z_callSN {host : String} (C : zC X cc nL own nm ret fr lc) (hM : zM (xl X) y (.code y cb maxL rty :: TW) rm (xD X) (xT X) (xlo X) al as hi h (v9, hi', h')) (hG : GoodIn TW (.code y cb maxL rty :: TW)) (hl9 : (own, index, y, host) ∈ NWl) (hst9 : .static y ∈ TW) (hini : .initialized y.cls ∈ TW) (hyd : y.cls ≠ "java/lang/invoke/MethodHandle" ∧ y.cls ≠ "java/lang/invoke/VarHandle" ∧ (parseMethodDescriptor y.desc).map (fun d => d.parameters.length) = some n) (hd : decode cc pc = .ok (.invokestatic index, 3)) (hn : as.length = n) (hroom : rm.frames + 1 ≤ fr ∧ 8 + (maxL + 11) + rm.locals ≤ lc) (hk : rm.cells + kc' = kc ∧ rm.slots + ks' = ks) (hw : (st.map fun v => v.category).sum ≤ 8) (hstk : stk = as.reverse ++ st)
    (kk : zW X nL Z kc' ks' al hi' h' (pc + 3) lv (v9.toList ++ st)) : zW X nL Z kc ks al hi h pc lv stk := by
  intro H locs ls cells slots hR hS ha hL hc hs
  have hf := C.f
  have hlc := C.c
  refine z_fin C hS (va_runSN (As := as) (rest := st) (host := host) ⟨C.1, C.2.1, C.l, C.o, C.W⟩ hM ⟨va_cnB n C.W hG rfl rfl rfl (C.N.1 _ hl9) (C.W _ hini) hyd ⟨by omega, by omega⟩, C.W _ hst9, trivial⟩ ⟨zP.calls, z_pre C hR hS ha as⟩ rfl hn hL.1 hstk (by show 2 * 0 + _ ≤ 8; omega) hd ⟨by omega, by omega⟩) fun H1 locs1 hR1 hS1 ha1 => ?_
  exact kk H1 locs1 ls _ _ hR1 hS1 ha1 hL (by omega) (by omega)
theorem z_callI (C : zC X cc nL own nm ret fr lc) (hM : zM (xl X) y (.code y cb maxL none :: TW) rm (xD X) (xT X) (xlo X) al (.ref b :: as) hi h (none, hi', h')) (hG : GoodIn TW (.code y cb maxL none :: TW)) (hini : .initialized y.cls ∈ TW) (hl9 : .methodLink own index y ∈ TW) (hin : .instanceMethod y ∈ TW) (hy1 : y.name = "<init>") (hyd : y.cls ≠ "java/lang/invoke/MethodHandle" ∧ y.cls ≠ "java/lang/invoke/VarHandle" ∧ (parseMethodDescriptor y.desc).map (fun d => d.parameters.length) = some n) (hd : decode cc pc = .ok (.invokespecial index, 3)) (hn : as.length = n) (hroom : rm.frames + 1 ≤ fr ∧ 8 + (maxL + 11) + rm.locals ≤ lc) (hk : rm.cells + kc' = kc ∧ rm.slots + ks' = ks) (hw : (st.map fun v => v.category).sum ≤ 8) (hstk : stk = as.reverse ++ .ref b :: st)
    (kk : zW X nL Z kc' ks' al hi' h' (pc + 3) lv st) : zW X nL Z kc ks al hi h pc lv stk := by
  intro H locs ls cells slots hR hS ha hL hc hs
  have hf := C.f
  have hlc := C.c
  refine z_fin C hS (va_runI (As := as) (rest := st) ⟨C.1, C.2.1, C.l, C.o, C.W⟩ hM (cwI n C.W hG rfl rfl rfl (C.W _ hini) (C.W _ hl9) (C.W _ hin) hy1 hyd ⟨by omega, by omega⟩) ⟨zP.calls, z_pre C hR hS ha (.ref b :: as)⟩ rfl hn hL.1 hstk (by show 2 * 0 + _ ≤ 8; omega) hd ⟨by omega, by omega⟩) fun H1 locs1 hR1 hS1 ha1 => ?_
  exact kk H1 locs1 ls _ _ hR1 hS1 ha1 hL (by omega) (by omega)
theorem z_callIN {host : String} (C : zC X cc nL own nm ret fr lc) (hM : zM (xl X) y (.code y cb maxL none :: TW) rm (xD X) (xT X) (xlo X) al (.ref b :: as) hi h (none, hi', h')) (hG : GoodIn TW (.code y cb maxL none :: TW)) (hini : .initialized y.cls ∈ TW) (hl9 : (own, index, y, host) ∈ NWl) (hin : .instanceMethod y ∈ TW) (hy1 : y.name = "<init>") (hyd : y.cls ≠ "java/lang/invoke/MethodHandle" ∧ y.cls ≠ "java/lang/invoke/VarHandle" ∧ (parseMethodDescriptor y.desc).map (fun d => d.parameters.length) = some n) (hd : decode cc pc = .ok (.invokespecial index, 3)) (hn : as.length = n) (hroom : rm.frames + 1 ≤ fr ∧ 8 + (maxL + 11) + rm.locals ≤ lc) (hk : rm.cells + kc' = kc ∧ rm.slots + ks' = ks) (hw : (st.map fun v => v.category).sum ≤ 8) (hstk : stk = as.reverse ++ .ref b :: st)
    (kk : zW X nL Z kc' ks' al hi' h' (pc + 3) lv st) : zW X nL Z kc ks al hi h pc lv stk := by
  intro H locs ls cells slots hR hS ha hL hc hs
  have hf := C.f
  have hlc := C.c
  refine z_fin C hS (va_runIN (As := as) (rest := st) (host := host) ⟨C.1, C.2.1, C.l, C.o, C.W⟩ hM ⟨va_cnB n C.W hG rfl rfl rfl (C.N.1 _ hl9) (C.W _ hini) hyd ⟨by omega, by omega⟩, hy1, C.W _ hin⟩ ⟨zP.calls, z_pre C hR hS ha (.ref b :: as)⟩ rfl hn hL.1 hstk (by show 2 * 0 + _ ≤ 8; omega) hd ⟨by omega, by omega⟩) fun H1 locs1 hR1 hS1 ha1 => ?_
  exact kk H1 locs1 ls _ _ hR1 hS1 ha1 hL (by omega) (by omega)
theorem z_objInit (C : zC X cc nL own nm ret fr lc) {a : Nat} (hl9 : .methodLink own index objectInit ∈ TW) (hin : .instanceMethod objectInit ∈ TW) (hco : .code objectInit ⟨#[0xb1]⟩ 1 none ∈ TW) (hd : decode cc pc = .ok (.invokespecial index, 3)) (hroom : 1 ≤ fr ∧ (st.map fun v => v.category).sum + 12 ≤ lc) (kk : zW X nL Z kc ks al hi h (pc + 3) lv st) : zW X nL Z kc ks al hi h pc lv (.ref a :: st) := by
  intro H locs ls cells slots hR hS ha hL hc hs
  have hf := C.f
  have hlc := C.c
  exact W.objInit C.1 C.2.1 C.o (C.W _ hl9) (C.W _ hin) (C.W _ hco) rfl (by rw [C.l]; exact hL.1) rfl hd (by omega) (by show 2 * 0 + _ + 12 ≤ _; omega) (kk H locs ls cells slots hR hS ha hL hc hs)
theorem z_abs (C : zC X cc nL own nm ret fr lc) {x : Int32} (hl9 : .methodLink own index Lib.Math.abs.name ∈ TW) (hin : .static Lib.Math.abs.name ∈ TW) (hini : .initialized "java/lang/Math" ∈ TW) (hco : .code Lib.Math.abs.name Lib.Math.abs.code 1 (some .int) ∈ TW) (hd : decode cc pc = .ok (.invokestatic index, 3)) (hroom : 1 ≤ fr ∧ (st.map fun v => v.category).sum + 13 ≤ lc) (kk : zW X nL Z kc ks al hi h (pc + 3) lv (.int (if 0 ≤ x then x else 0 - x) :: st)) : zW X nL Z kc ks al hi h pc lv (.int x :: st) := by
  intro H locs ls cells slots hR hS ha hL hc hs
  have hf := C.f
  have hlc := C.c
  exact va_mabs C.1 C.2.1 (by rw [C.l]; exact hL.1.symm) C.o (C.W _ hl9) (C.W _ hin) (C.W _ hini) (C.W _ hco) (by omega) (by omega) (by omega) (by omega) hd (kk H locs ls cells slots hR hS ha hL hc hs)
theorem z_min (C : zC X cc nL own nm ret fr lc) {x z : Int32} (hl9 : .methodLink own index Lib.Math.min.name ∈ TW) (hin : .static Lib.Math.min.name ∈ TW) (hini : .initialized "java/lang/Math" ∈ TW) (hco : .code Lib.Math.min.name Lib.Math.min.code 2 (some .int) ∈ TW) (hd : decode cc pc = .ok (.invokestatic index, 3)) (hroom : 1 ≤ fr ∧ (st.map fun v => v.category).sum + 13 ≤ lc) (kk : zW X nL Z kc ks al hi h (pc + 3) lv (.int (if z < x then z else x) :: st)) : zW X nL Z kc ks al hi h pc lv (.int z :: .int x :: st) := by
  intro H locs ls cells slots hR hS ha hL hc hs
  have hf := C.f
  have hlc := C.c
  exact va_mmin C.1 C.2.1 (by rw [C.l]; exact hL.1.symm) C.o (C.W _ hl9) (C.W _ hin) (C.W _ hini) (C.W _ hco) (by omega) (by omega) (by omega) (by omega) hd (kk H locs ls cells slots hR hS ha hL hc hs)
theorem z_max (C : zC X cc nL own nm ret fr lc) {x z : Int32} (hl9 : .methodLink own index Lib.Math.max.name ∈ TW) (hin : .static Lib.Math.max.name ∈ TW) (hini : .initialized "java/lang/Math" ∈ TW) (hco : .code Lib.Math.max.name Lib.Math.max.code 2 (some .int) ∈ TW) (hd : decode cc pc = .ok (.invokestatic index, 3)) (hroom : 1 ≤ fr ∧ (st.map fun v => v.category).sum + 13 ≤ lc) (kk : zW X nL Z kc ks al hi h (pc + 3) lv (.int (if x < z then z else x) :: st)) : zW X nL Z kc ks al hi h pc lv (.int z :: .int x :: st) := by
  intro H locs ls cells slots hR hS ha hL hc hs
  have hf := C.f
  have hlc := C.c
  exact va_mmax C.1 C.2.1 (by rw [C.l]; exact hL.1.symm) C.o (C.W _ hl9) (C.W _ hin) (C.W _ hini) (C.W _ hco) (by omega) (by omega) (by omega) (by omega) hd (kk H locs ls cells slots hR hS ha hL hc hs)
theorem z_ldc2 (C : zC X cc nL own nm ret fr lc) {v : Int64} (hw : .constantLong own index v ∈ TW) (hd : decode cc pc = .ok (.ldc2_w index, 3)) (kk : zW X nL Z kc ks al hi h (pc + 3) lv (.long v :: st)) : zW X nL Z kc ks al hi h pc lv st := fun H locs ls cells slots hR hS ha hL hc hs =>
  W.ldc2 C.1 C.2.1 C.o (C.W _ hw) rfl hd (kk H locs ls cells slots hR hS ha hL hc hs)
theorem z_ldc (C : zC X cc nL own nm ret fr lc) {v : Int32} (hw : .constant own index v ∈ TW) (hd : decode cc pc = .ok (.ldc index, 2)) (kk : zW X nL Z kc ks al hi h (pc + 2) lv (.int v :: st)) : zW X nL Z kc ks al hi h pc lv st := fun H locs ls cells slots hR hS ha hL hc hs =>
  W.ldc C.1 C.2.1 C.o (C.W _ hw) rfl hd (kk H locs ls cells slots hR hS ha hL hc hs)
theorem z_ldc_w (C : zC X cc nL own nm ret fr lc) {v : Int32} (hw : .constant own index v ∈ TW) (hd : decode cc pc = .ok (.ldc_w index, 3)) (kk : zW X nL Z kc ks al hi h (pc + 3) lv (.int v :: st)) : zW X nL Z kc ks al hi h pc lv st := fun H locs ls cells slots hR hS ha hL hc hs =>
  lv_ldcw C.1 C.2.1 C.o (C.W _ hw) hd (kk H locs ls cells slots hR hS ha hL hc hs)
theorem z_tswIn (C : zC X cc nL own nm ret fr lc) {x k : Int32} {dflt lo hi9 off : Int} {offs : Array Int} {len tgt : Nat} (hx : x = k) (hd : decode cc pc = .ok (.tableswitch dflt lo hi9 offs, len)) (h9 : ¬ k.toInt < lo ∧ ¬ hi9 < k.toInt ∧ offs[(k.toInt - lo).toNat]? = some off) (ht : (pc : Int) + off = (tgt : Int)) (kk : zW X nL Z kc ks al hi h tgt lv st) : zW X nL Z kc ks al hi h pc lv (.int x :: st) := fun H locs ls cells slots hR hS ha hL hc hs =>
  lv_tableIn C.1 C.2.1 hd (by rw [hx]; exact h9.1) (by rw [hx]; exact h9.2.1) (by rw [hx]; exact h9.2.2) ht (kk H locs ls cells slots hR hS ha hL hc hs)
theorem z_tswOut (C : zC X cc nL own nm ret fr lc) {x : Int32} {dflt lo hi9 : Int} {offs : Array Int} {len tgt : Nat} (hd : decode cc pc = .ok (.tableswitch dflt lo hi9 offs, len)) (h9 : x.toInt < lo ∨ hi9 < x.toInt) (ht : (pc : Int) + dflt = (tgt : Int)) (kk : zW X nL Z kc ks al hi h tgt lv st) : zW X nL Z kc ks al hi h pc lv (.int x :: st) := fun H locs ls cells slots hR hS ha hL hc hs =>
  lv_tableOut C.1 C.2.1 hd h9 ht (kk H locs ls cells slots hR hS ha hL hc hs)
theorem z_lsw (C : zC X cc nL own nm ret fr lc) {x : Int32} {dflt off : Int} {ps : Array (Int × Int)} {len tgt : Nat} (hd : decode cc pc = .ok (.lookupswitch dflt ps, len)) (hp : (ps.toList.zip (ps.toList.drop 1)).all (fun (a, next) => a.1 < next.1) = true) (ho : Op.lookupswitch.offset ps.toList dflt x.toInt = off) (ht : (pc : Int) + off = (tgt : Int)) (kk : zW X nL Z kc ks al hi h tgt lv st) : zW X nL Z kc ks al hi h pc lv (.int x :: st) := fun H locs ls cells slots hR hS ha hL hc hs =>
  lv_lookup C.1 C.2.1 hd hp ho ht (kk H locs ls cells slots hR hS ha hL hc hs)
theorem z_ne {x k : Int32} {i : Int} (hk : k.toInt = i) (h : ¬ x = k) : x.toInt ≠ i := fun e => h (Int32.toInt_inj.mp (e.trans hk.symm))
theorem z_ite {c : Prop} [Decidable c] {A B : Option ρ} {G : Prop} (hf : (if c then A else B) = some r) (kt : c → A = some r → G) (kf : ¬ c → B = some r → G) : G := by
  by_cases hc : c
  · rw [if_pos hc] at hf; exact kt hc hf
  · rw [if_neg hc] at hf; exact kf hc hf
/-- a point where roads meet -/
def zJ {α : Type} {ρ : Type} (J : α) (F : α → Option ρ) : Option ρ := F J
theorem z_join {α : Type} {P : α → Prop} {G : Prop} {J : α} {F : α → Option ρ} (hf : zJ J F = some r) (h1 : P J) (h2 : ∀ J', P J' → F J' = some r → G) : G := h2 J h1 hf
/-- new objects and arrays, in a method that makes things: they come at the heap's end -/
def zni (own : String) (index ci : Nat) (n9 : Nat) (fs : List Value) : Prop := ∃ (Cn : String) (T : u_T) (ty : Nat → FieldType), vwCl[ci]? = some (Cn, T, n9) ∧ (∀ w ∈ u_ws Cn T n9, w ∈ TW) ∧ (∀ k, k < n9 → parseFieldDescriptor (T k).2.2.1 = some (ty k)) ∧ .classLink own index Cn ∈ TW ∧ .instantiable Cn n9 ∈ TW ∧ .initialized Cn ∈ TW ∧ (∀ j, j < n9 → defaultValue (ty j) = vp_V fs j)
theorem z_new (C : zC X cc nL own nm ret fr lc) {n9 : Nat} {fs : List Value} (hN : zni own index ci n9 fs) (hal : al = true) (hd : decode cc pc = .ok (.new index, 3)) (hk : 1 + kc' = kc ∧ n9 + ks' = ks) (kk : zW X nL Z kc' ks' al (hi + 1) (va_up h hi (some (.inr (ci, fs)))) (pc + 3) lv (.ref hi :: st)) : zW X nL Z kc ks al hi h pc lv st := by
  obtain ⟨Cn, T, ty, hcl, hin, hty, hw1, hw2, hw3, hfs⟩ := hN
  intro H locs ls cells slots hR hS ha hL hc hs
  have hKn := C.K.1 ci _ hcl
  have hsz := ha hal
  refine W.newcK C.1 C.2.1 C.o (C.W _ hw1) (C.W _ hw2) (C.W _ hw3) rfl hd (by omega) (by omega) hKn.2.1 hsz fun H1 kC hkC e1 z1 o1 => ?_
  exact kk H1 locs ls (cells + 1) (slots + n9) (hR.push hsz (by rw [← hsz]; exact Nat.le_trans C.z hS.1) ⟨_, hcl, (u_born ty C.W hin hKn hkC e1 hty).to hfs⟩ o1) ⟨Nat.le_trans hS.1 (by omega), fun x h1 h2 => (o1 x (by rw [← hsz]; exact Nat.lt_of_lt_of_le h1 hS.1)).trans (hS.2.1 x h1 h2), hS.2.2⟩ (fun _ => z1) hL (by omega) (by omega)
end ZCall
end
section
theorem mw_obji : Cond.instanceMethod objectInit ∈ TW := TWm 69 (by decide +kernel) (by decide +kernel)
theorem mw_objc : Cond.code objectInit ⟨#[0xb1]⟩ 1 none ∈ TW := TWm 70 (by decide +kernel) (by decide +kernel)
theorem mw_mathi : Cond.initialized "java/lang/Math" ∈ TW := TWm 61 (by decide +kernel) (by decide +kernel)
theorem mw_abss : Cond.static Lib.Math.abs.name ∈ TW := TWm 468 (by decide +kernel) (by decide +kernel)
theorem mw_absc : Cond.code Lib.Math.abs.name Lib.Math.abs.code 1 (some .int) ∈ TW := TWm 469 (by decide +kernel) (by decide +kernel)
theorem mw_mins : Cond.static Lib.Math.min.name ∈ TW := TWm 426 (by decide +kernel) (by decide +kernel)
theorem mw_minc : Cond.code Lib.Math.min.name Lib.Math.min.code 2 (some .int) ∈ TW := TWm 427 (by decide +kernel) (by decide +kernel)
theorem mw_maxs : Cond.static Lib.Math.max.name ∈ TW := TWm 682 (by decide +kernel) (by decide +kernel)
theorem mw_maxc : Cond.code Lib.Math.max.name Lib.Math.max.code 2 (some .int) ∈ TW := TWm 683 (by decide +kernel) (by decide +kernel)
theorem mw_acn : Cond.native arraycopyName ∈ TW := TWm 423 (by decide +kernel) (by decide +kernel)
theorem mw_acs : Cond.static arraycopyName ∈ TW := TWm 422 (by decide +kernel) (by decide +kernel)
theorem mw_aci : Cond.initialized "java/lang/System" ∈ TW := TWm 60 (by decide +kernel) (by decide +kernel)
theorem inTX0 : ∀ w ∈ wsX00, w ∈ TW := by decide +kernel
theorem inTX1 : ∀ w ∈ wsX10, w ∈ TW := by decide +kernel
theorem inTX2 : ∀ w ∈ wsX20, w ∈ TW := by decide +kernel
theorem inTX3 : ∀ w ∈ wsX30, w ∈ TW := by decide +kernel
theorem inTX4 : ∀ w ∈ wsX40, w ∈ TW := by decide +kernel
theorem inTX5 : ∀ w ∈ wsX50, w ∈ TW := by decide +kernel
theorem inTX6 : ∀ w ∈ wsX60, w ∈ TW := by decide +kernel
theorem inTX7 : ∀ w ∈ wsX70, w ∈ TW := by decide +kernel
def FUEL : Nat := 10000
def zon {ρ : Type} (x : Option Nat) (A : Option ρ) (B : Nat → Option ρ) : Option ρ := match x with
  | none => A
  | some q => B q
theorem z_on {ρ : Type} {x : Option Nat} {A : Option ρ} {B : Nat → Option ρ} {r : ρ} {G : Prop} (hf : zon x A B = some r) (k1 : x = none → A = some r → G) (k2 : ∀ q, x = some q → B q = some r → G) : G := by
  cases x with
  | none => exact k1 rfl hf
  | some q => exact k2 q rfl hf
def zb2 {α β ρ : Type} (x : Option (α × β)) (f : α → β → Option ρ) : Option ρ := match x with
  | some (a, b) => f a b
  | none => none
theorem zbind2 {α β ρ : Type} {x : Option (α × β)} {f : α → β → Option ρ} {r : ρ} (h : zb2 x f = some r) : ∃ a b, x = some (a, b) ∧ f a b = some r := by
  unfold zb2 at h
  split at h
  · exact ⟨_, _, rfl, h⟩
  · cases h
section
variable {X : zX} {cc : ByteArray} {nL : Nat} {own nm : String} {ret : Option FieldType} {fr lc : Nat} {Z : State → Prop} {kc ks : Nat} {al : Bool} {hi : Nat} {h : zH} {pc : Nat} {lv : List (Nat × Value)} {st : List Value}
theorem z_ifnull (C : zC X cc nL own nm ret fr lc) {x : Nat} {off : Int} (hd : decode cc pc = .ok (.ifnull off, 3)) (kk : zW X nL Z kc ks al hi h (pc + 3) lv st) : zW X nL Z kc ks al hi h pc lv (.ref x :: st) := fun H locs ls cells slots hR hS ha hL hc hs => lv_ifnull C.1 C.2.1 hd (kk H locs ls cells slots hR hS ha hL hc hs)
end
end
section
/-! copying of arrays, new arrays, references that may be null -/
def zf (h : zH) (a : Nat) : va_E := (h a).getD (.inr (0, []))
theorem zR.world {D : va_G} {lo : Nat} {h : zH} {H : Heap} (hR : zR D lo h H) : ∃ L : List Nat, (∀ a x, h a = some x → a ∈ L) ∧ (∀ a, a ∈ L → h a ≠ none) ∧ va_P D vwCl (va_pl L (zf h)) H ∧ va_D (fun q => lo ≤ q) (va_pl L (zf h)) := by
  have hin : ∀ a, a ∈ (List.range H.size).filter (fun a => (h a).isSome) → ∃ x, h a = some x := by
    intro a ha
    have h1 := (List.mem_filter.mp ha).2
    exact Option.isSome_iff_exists.mp h1
  have hk : ∀ (k : Nat) (q : Nat × va_E), (va_pl ((List.range H.size).filter (fun a => (h a).isSome)) (zf h))[k]? = some q → ((List.range H.size).filter (fun a => (h a).isSome))[k]? = some q.1 ∧ h q.1 = some q.2 := by
    intro k q hq
    unfold va_pl at hq
    rw [List.getElem?_map] at hq
    cases hz : ((List.range H.size).filter (fun a => (h a).isSome))[k]? with
    | none => rw [hz] at hq; cases hq
    | some a =>
      rw [hz] at hq
      cases hq
      obtain ⟨x, hx⟩ := hin a (List.mem_of_getElem? hz)
      refine ⟨rfl, ?_⟩
      show h a = some (zf h a)
      unfold zf
      rw [hx]
      rfl
  refine ⟨(List.range H.size).filter (fun a => (h a).isSome), fun a x hx => List.mem_filter.mpr ⟨List.mem_range.mpr (hR.lt hx), by rw [hx]; rfl⟩, fun a ha => ?_, fun k q hq => (hR _ _ (hk k q hq).2).2, fun i j p q hi hj e => ?_, fun k q hq => (hR _ _ (hk k q hq).2).1⟩
  · obtain ⟨x, hx⟩ := hin a ha
    rw [hx]
    exact fun e => nomatch e
  · have h1 := (hk i p hi).1
    have h2 := (hk j q hj).1
    rw [← e] at h2
    have hnd : ((List.range H.size).filter (fun a => (h a).isSome)).Nodup := List.nodup_range.filter _
    obtain ⟨h3, h4⟩ := List.getElem?_eq_some_iff.mp h1
    obtain ⟨h5, h6⟩ := List.getElem?_eq_some_iff.mp h2
    have hpw := List.pairwise_iff_getElem.mp hnd
    rcases Nat.lt_trichotomy i j with hlt | heq | hlt
    · exact absurd (h4.trans h6.symm) (hpw i j h3 h5 hlt)
    · exact heq
    · exact absurd (h6.trans h4.symm) (hpw j i h5 h3 hlt)
theorem zR.back {D : va_G} {lo a : Nat} {h : zH} {H1 : Heap} {L : List Nat} {e : va_E} (hL : ∀ a x, h a = some x → a ∈ L) (hP : va_P D vwCl (va_pl L (va_up (zf h) a e)) H1) (hD : va_D (fun q => lo ≤ q) (va_pl L (va_up (zf h) a e))) (ha : a ∈ L) : zR D lo (va_up h a (some e)) H1 := by
  intro b x hb
  have hbL : b ∈ L := by
    unfold va_up at hb
    by_cases hba : b = a
    · rw [hba]; exact ha
    · rw [if_neg hba] at hb; exact hL b x hb
  obtain ⟨k, hk⟩ := va_pl_get (X := []) (f := va_up (zf h) a e) hbL
  have hk : (va_pl L (va_up (zf h) a e))[k]? = some (b, va_up (zf h) a e b) := hk
  have hx : va_up (zf h) a e b = x := by
    unfold va_up at hb ⊢
    by_cases hba : b = a
    · rw [if_pos hba] at hb ⊢; cases hb; rfl
    · rw [if_neg hba] at hb ⊢; unfold zf; rw [hb]; rfl
  rw [hx] at hk
  exact ⟨hD.2 k _ hk, hP k _ hk⟩
def zna (c : ClassId) (h : zH) (hi : Nat) (n : Int32) : Option zH := if n < 0 ∨ 100000 < n.toNatClampNeg then none else some (va_up h hi (some (.inl (c, n.toNatClampNeg, .inl (fun _ => 0)))))
def znl (c : ClassId) (h : zH) (hi : Nat) (n : Int32) : Option zH := if n < 0 ∨ 100000 < n.toNatClampNeg then none else some (va_up h hi (some (.inl (c, n.toNatClampNeg, .inr (.inl (fun _ => 0))))))
def znq (c : ClassId) (h : zH) (hi : Nat) (n : Int32) : Option zH := if n < 0 ∨ 100000 < n.toNatClampNeg then none else some (va_up h hi (some (.inl (c, n.toNatClampNeg, .inr (.inr (.inr (.inr (fun _ => none))))))))
def znw (h : zH) (hi ci : Nat) (fs : List Value) : Option zH := some (va_up h hi (some (.inr (ci, fs))))
section ZMore
variable {X : zX} {cc : ByteArray} {nL : Nat} {own nm : String} {ret : Option FieldType} {fr lc : Nat} {Z : State → Prop} {kc ks kc' ks' : Nat} {al : Bool} {hi ci index : Nat} {h : zH} {pc : Nat} {lv : List (Nat × Value)} {st : List Value} {ρ : Type} {r : ρ}
theorem z_copy (C : zC X cc nL own nm ret fr lc) {a0 a : Nat} {sp dp n9 : Int32} {G : zH → Option ρ} (hl9 : .methodLink own index arraycopyName ∈ TW) (hnat : .native arraycopyName ∈ TW) (hst9 : .static arraycopyName ∈ TW) (hini : .initialized "java/lang/System" ∈ TW) (hd : decode cc pc = .ok (.invokestatic index, 3)) (hroom : 1 ≤ fr ∧ (st.map fun v => v.category).sum + (nativeFrameWords "java/lang/System" "arraycopy" 5 + 11) ≤ lc) (hf9 : (zcp (xT X) h a0 sp a dp n9).bind G = some r) (kk : ∀ h', G h' = some r → zW X nL Z kc ks false hi h' (pc + 3) lv st) : zW X nL Z kc ks false hi h pc lv (.int n9 :: .int dp :: .ref a :: .int sp :: .ref a0 :: st) := by
  obtain ⟨h9, h1, h2⟩ := zbind hf9
  have kk := kk h9 h2
  unfold zcp at h1
  split at h1
  · rename_i c0 n0 f c1 n1 g he0 he1
    by_cases hcn : c0 = (xT X).1 ∧ c1 = (xT X).1 ∧ ¬ sp < 0 ∧ ¬ dp < 0 ∧ ¬ n9 < 0 ∧ sp.toNatClampNeg + n9.toNatClampNeg ≤ n0 ∧ dp.toNatClampNeg + n9.toNatClampNeg ≤ n1
    · rw [if_pos hcn] at h1
      cases h1
      obtain ⟨rfl, rfl, g1, g2, g3, g4, g5⟩ := hcn
      intro H locs ls cells slots hR hS ha hL hc hs
      have hf := C.f
      have hlc := C.c
      obtain ⟨L, hLi, hLs, hP, hD⟩ := hR.world
      obtain ⟨q0, hq0⟩ := va_pl_get (X := []) (f := zf h) (hLi _ _ he0)
      obtain ⟨q1, hq1⟩ := va_pl_get (X := []) (f := zf h) (hLi _ _ he1)
      have hq0 : (va_pl L (zf h))[q0]? = some (a0, .inl ((xT X).1, n0, .inl f)) := by
        have e : zf h a0 = .inl ((xT X).1, n0, .inl f) := by unfold zf; rw [he0]; rfl
        rw [← e]; exact hq0
      have e1 : zf h a = .inl ((xT X).1, n1, .inl g) := by unfold zf; rw [he1]; rfl
      have hq1' : (va_pl L (zf h))[q1]? = some (a, zf h a) := hq1
      have hq1 : (va_pl L (zf h))[q1]? = some (a, .inl ((xT X).1, n1, .inl g)) := by rw [← e1]; exact hq1'
      refine va_copyi C.1 C.2.1 (by rw [C.l]; exact hL.1.symm) C.o (C.W _ hl9) (C.W _ hnat) (C.W _ hst9) (C.W _ hini) C.K hP hD hS q0 q1 0 0 (ty := .int) hq0 hq1 rfl rfl rfl g1 g2 g3 g4 g5 (fun i _ => rfl) (by omega) (by omega) hd fun H1 locs1 hP1 hD1 hS1 => ?_
      have es : ∀ e : va_E, (va_pl L (zf h)).set q1 (a, e) = va_pl L (va_up (zf h) a e) := fun e => va_pl_set (X := []) hD (hLi _ _ he1) hq1'
      rw [es] at hP1 hD1
      exact kk H1 locs1 ls cells slots (zR.back hLi hP1 hD1 (hLi _ _ he1)) hS1 (fun t => nomatch t) hL hc hs
    · rw [if_neg hcn] at h1; cases h1
  · cases h1
theorem z_newarray_int (C : zC X cc nL own nm ret fr lc) {n : Int32} {G : zH → Option ρ} (hw : .arrayClass .int ∈ TW) (hal : al = true) (hd : decode cc pc = .ok (.newarray .int, 2)) (hk : 1 + kc' = kc ∧ n.toNatClampNeg + ks' = ks) (hf : (zna (xT X).1 h hi n).bind G = some r) (kk : ∀ h', G h' = some r → zW X nL Z kc' ks' al (hi + 1) h' (pc + 2) lv (.ref hi :: st)) : zW X nL Z kc ks al hi h pc lv (.int n :: st) := by
  obtain ⟨h9, h1, h2⟩ := zbind hf
  have kk := kk h9 h2
  unfold zna at h1
  by_cases hn : n < 0 ∨ 100000 < n.toNatClampNeg
  · rw [if_pos hn] at h1; cases h1
  rw [if_neg hn] at h1
  cases h1
  obtain ⟨hn1, hn2⟩ := not_or.mp hn
  intro H locs ls cells slots hR hS ha hL hc hs
  have hsz := ha hal
  have hb9 : n.toNatClampNeg * componentBytes (newarray.typeOf .int) ≤ 536870912 := by
    have h8 : componentBytes (newarray.typeOf .int) ≤ 8 := by decide
    exact Nat.le_trans (Nat.mul_le_mul (Nat.le_of_not_lt hn2) h8) (by decide)
  refine va_newaK (atype := .int) C.1 C.2.1 (C.W _ hw) rfl hd rfl hn1 rfl hb9 (by omega) (by omega) hsz fun H1 cA e1 z1 o1 hAr hNm => ?_
  have hcA : (xT X).1 = cA := Option.some.inj ((C.K.2 0 _ rfl).2.symm.trans hNm)
  refine kk H1 locs ls (cells + 1) (slots + n.toNatClampNeg) (hR.push hsz (by rw [← hsz]; exact Nat.le_trans C.z hS.1) ?_ o1) ⟨Nat.le_trans hS.1 (by omega), fun x h1 h2 => (o1 x (by rw [← hsz]; exact Nat.lt_of_lt_of_le h1 hS.1)).trans (hS.2.1 x h1 h2), hS.2.2⟩ (fun _ => z1) hL (by omega) (by omega)
  show H1[hi]? = some (vp_cell _ _)
  rw [hcA, vp_cell_i]
  exact e1
theorem z_newarray_boolean (C : zC X cc nL own nm ret fr lc) {n : Int32} {G : zH → Option ρ} (hw : .arrayClass .boolean ∈ TW) (hal : al = true) (hd : decode cc pc = .ok (.newarray .boolean, 2)) (hk : 1 + kc' = kc ∧ n.toNatClampNeg + ks' = ks) (hf : (zna (xT X).2.2.1 h hi n).bind G = some r) (kk : ∀ h', G h' = some r → zW X nL Z kc' ks' al (hi + 1) h' (pc + 2) lv (.ref hi :: st)) : zW X nL Z kc ks al hi h pc lv (.int n :: st) := by
  obtain ⟨h9, h1, h2⟩ := zbind hf
  have kk := kk h9 h2
  unfold zna at h1
  by_cases hn : n < 0 ∨ 100000 < n.toNatClampNeg
  · rw [if_pos hn] at h1; cases h1
  rw [if_neg hn] at h1
  cases h1
  obtain ⟨hn1, hn2⟩ := not_or.mp hn
  intro H locs ls cells slots hR hS ha hL hc hs
  have hsz := ha hal
  have hb9 : n.toNatClampNeg * componentBytes (newarray.typeOf .boolean) ≤ 536870912 := by
    have h8 : componentBytes (newarray.typeOf .boolean) ≤ 8 := by decide
    exact Nat.le_trans (Nat.mul_le_mul (Nat.le_of_not_lt hn2) h8) (by decide)
  refine va_newaK (atype := .boolean) C.1 C.2.1 (C.W _ hw) rfl hd rfl hn1 rfl hb9 (by omega) (by omega) hsz fun H1 cA e1 z1 o1 hAr hNm => ?_
  have hcA : (xT X).2.2.1 = cA := Option.some.inj ((C.K.2 2 _ rfl).2.symm.trans hNm)
  refine kk H1 locs ls (cells + 1) (slots + n.toNatClampNeg) (hR.push hsz (by rw [← hsz]; exact Nat.le_trans C.z hS.1) ?_ o1) ⟨Nat.le_trans hS.1 (by omega), fun x h1 h2 => (o1 x (by rw [← hsz]; exact Nat.lt_of_lt_of_le h1 hS.1)).trans (hS.2.1 x h1 h2), hS.2.2⟩ (fun _ => z1) hL (by omega) (by omega)
  show H1[hi]? = some (vp_cell _ _)
  rw [hcA, vp_cell_i]
  exact e1
theorem z_newarray_long (C : zC X cc nL own nm ret fr lc) {n : Int32} {G : zH → Option ρ} (hw : .arrayClass .long ∈ TW) (hal : al = true) (hd : decode cc pc = .ok (.newarray .long, 2)) (hk : 1 + kc' = kc ∧ n.toNatClampNeg + ks' = ks) (hf : (znl (xT X).2.1 h hi n).bind G = some r) (kk : ∀ h', G h' = some r → zW X nL Z kc' ks' al (hi + 1) h' (pc + 2) lv (.ref hi :: st)) : zW X nL Z kc ks al hi h pc lv (.int n :: st) := by
  obtain ⟨h9, h1, h2⟩ := zbind hf
  have kk := kk h9 h2
  unfold znl at h1
  by_cases hn : n < 0 ∨ 100000 < n.toNatClampNeg
  · rw [if_pos hn] at h1; cases h1
  rw [if_neg hn] at h1
  cases h1
  obtain ⟨hn1, hn2⟩ := not_or.mp hn
  intro H locs ls cells slots hR hS ha hL hc hs
  have hsz := ha hal
  have hb9 : n.toNatClampNeg * componentBytes (newarray.typeOf .long) ≤ 536870912 := by
    have h8 : componentBytes (newarray.typeOf .long) ≤ 8 := by decide
    exact Nat.le_trans (Nat.mul_le_mul (Nat.le_of_not_lt hn2) h8) (by decide)
  refine va_newaK (atype := .long) C.1 C.2.1 (C.W _ hw) rfl hd rfl hn1 rfl hb9 (by omega) (by omega) hsz fun H1 cA e1 z1 o1 hAr hNm => ?_
  have hcA : (xT X).2.1 = cA := Option.some.inj ((C.K.2 1 _ rfl).2.symm.trans hNm)
  refine kk H1 locs ls (cells + 1) (slots + n.toNatClampNeg) (hR.push hsz (by rw [← hsz]; exact Nat.le_trans C.z hS.1) ?_ o1) ⟨Nat.le_trans hS.1 (by omega), fun x h1 h2 => (o1 x (by rw [← hsz]; exact Nat.lt_of_lt_of_le h1 hS.1)).trans (hS.2.1 x h1 h2), hS.2.2⟩ (fun _ => z1) hL (by omega) (by omega)
  show H1[hi]? = some (vp_cell _ _)
  rw [hcA, vp_cell_l]
  exact e1
theorem z_anewarray (C : zC X cc nL own nm ret fr lc) {n : Int32} {G : zH → Option ρ} (hw : .classLink own index "CrossedSheet$Sheet" ∈ TW) (hal : al = true) (hd : decode cc pc = .ok (.anewarray index, 3)) (hk : 1 + kc' = kc ∧ n.toNatClampNeg + ks' = ks) (hf : (znq (xT X).2.2.2 h hi n).bind G = some r) (kk : ∀ h', G h' = some r → zW X nL Z kc' ks' al (hi + 1) h' (pc + 3) lv (.ref hi :: st)) : zW X nL Z kc ks al hi h pc lv (.int n :: st) := by
  obtain ⟨h9, h1, h2⟩ := zbind hf
  have kk := kk h9 h2
  unfold znq at h1
  by_cases hn : n < 0 ∨ 100000 < n.toNatClampNeg
  · rw [if_pos hn] at h1; cases h1
  rw [if_neg hn] at h1
  cases h1
  obtain ⟨hn1, hn2⟩ := not_or.mp hn
  intro H locs ls cells slots hR hS ha hL hc hs
  have hsz := ha hal
  refine W.anew C.1 C.2.1 C.o (C.W _ hw) (va_AO.use C.N.2) rfl hd rfl hn1 (by omega) (by omega) (by omega) fun cA kA comp f1 f2 f3 f4 => ?_
  have hcA : (xT X).2.2.2 = cA := by
    obtain ⟨kA', comp', -, -, -, h9⟩ := (C.K.2 3 _ rfl).2
    exact Option.some.inj (h9.symm.trans f1)
  generalize hH1 : H.push ({ cls := cA, slots := Array.replicate n.toNatClampNeg .null, vm := .none } : Cell) = H1
  have z1 : H1.size = H.size + 1 := by rw [← hH1, Array.size_push]
  have e1 : H1[H.size]? = some (arrV cA n.toNatClampNeg (fun _ => .null)) := by rw [← hH1, Array.getElem?_push_size, ← arrV_new]
  have o1 : ∀ q : Nat, q < H.size → H1[q]? = H[q]? := fun q hq => by rw [← hH1, Array.getElem?_push, if_neg (Nat.ne_of_lt hq)]
  rw [hsz] at z1 e1 o1 ⊢
  refine kk H1 locs ls (cells + 1) (slots + n.toNatClampNeg) (hR.push hsz (by rw [← hsz]; exact Nat.le_trans C.z hS.1) ?_ o1) ⟨Nat.le_trans hS.1 (by omega), fun x h1 h2 => (o1 x (by rw [← hsz]; exact Nat.lt_of_lt_of_le h1 hS.1)).trans (hS.2.1 x h1 h2), hS.2.2⟩ (fun _ => z1) hL (by omega) (by omega)
  show H1[hi]? = some (vp_cell _ _)
  rw [hcA, vp_cell_q]
  exact e1
theorem z_newf (C : zC X cc nL own nm ret fr lc) {n9 : Nat} {fs : List Value} {G : zH → Option ρ} (hN : zni own index ci n9 fs) (hal : al = true) (hd : decode cc pc = .ok (.new index, 3)) (hk : 1 + kc' = kc ∧ n9 + ks' = ks) (hf : (znw h hi ci fs).bind G = some r) (kk : ∀ h', G h' = some r → zW X nL Z kc' ks' al (hi + 1) h' (pc + 3) lv (.ref hi :: st)) : zW X nL Z kc ks al hi h pc lv st := by
  obtain ⟨h9, h1, h2⟩ := zbind hf
  unfold znw at h1
  cases h1
  exact z_new C hN hal hd hk (kk _ h2)
theorem z_areturn (C : zC X cc nL own nm (some (.object "CrossedSheet$Sheet")) fr lc) {v : Option Nat} {R9 : zRes} (hd : decode cc pc = .ok (.areturn, 1)) (e9 : (some (va_rf v), hi, h) = R9) : zW X nL (zZ X al R9) kc ks al hi h pc lv [va_rf v] := fun H locs ls cells slots hR hS ha hL hc hs =>
  W.widen (k := (xR X).cells) (n := (xR X).slots) (by omega) (by omega) (W.aret C.1 C.2.1 C.rt (Or.inl ⟨_, rfl⟩) (by cases v with | none => exact Or.inl rfl | some a => exact Or.inr ⟨a, rfl⟩) (z_end e9 hR hS ha) hS.2.2 hd C.s)
theorem z_aconst_null (C : zC X cc nL own nm ret fr lc) (hd : decode cc pc = .ok (.aconst_null, 1)) (kk : zW X nL Z kc ks al hi h (pc + 1) lv (.null :: st)) : zW X nL Z kc ks al hi h pc lv st := fun H locs ls cells slots hR hS ha hL hc hs => lv_null C.1 C.2.1 hd (kk H locs ls cells slots hR hS ha hL hc hs)
theorem z_astore_nN (C : zC X cc nL own nm ret fr lc) {k : Fin 4} {i : Nat} {lv' : List (Nat × Value)} (hd : decode cc pc = .ok (.astore_n k, 1)) (hi2 : (k : Nat) = i) (hn : i < nL) (hl : (i, Value.null) :: lv.filter (fun q => !(q.1 == i) && !(q.1 + 1 == i && q.2.category == 2)) = lv') (kk : zW X nL Z kc ks al hi h (pc + 1) lv' st) : zW X nL Z kc ks al hi h pc lv (.null :: st) := fun H locs ls cells slots hR hS ha hL hc hs => lv_astore_nN C.1 C.2.1 hd hi2 hL hn hl (fun ls hL => kk H locs ls cells slots hR hS ha hL hc hs)
theorem z_aload_nN (C : zC X cc nL own nm ret fr lc) {k : Fin 4} {i : Nat} (hd : decode cc pc = .ok (.aload_n k, 1)) (j : Nat) (hi2 : (k : Nat) = i) (hj : lv[j]? = some (i, .null)) (kk : zW X nL Z kc ks al hi h (pc + 1) lv (.null :: st)) : zW X nL Z kc ks al hi h pc lv st := fun H locs ls cells slots hR hS ha hL hc hs => lv_aload_nN C.1 C.2.1 hd hi2 (lv_at hL j hj) (kk H locs ls cells slots hR hS ha hL hc hs)
theorem z_ifnullN (C : zC X cc nL own nm ret fr lc) {off : Int} {tgt : Nat} (hd : decode cc pc = .ok (.ifnull off, 3)) (ht : (pc : Int) + off = (tgt : Int)) (kk : zW X nL Z kc ks al hi h tgt lv st) : zW X nL Z kc ks al hi h pc lv (.null :: st) := fun H locs ls cells slots hR hS ha hL hc hs => lv_ifnullN C.1 C.2.1 hd ht (kk H locs ls cells slots hR hS ha hL hc hs)
end ZMore
end
section
/-! methods that throw: they return, or are left by an exception of a class of their own making; the heap that they leave holds a map in both cases -/
def EXN : List String := ["java/lang/RuntimeException", "java/lang/Exception"]
def STl : List (String × Nat × String) := [("CrossedSheet", 311, "an argument is out of its range"), ("CrossedSheet", 78, "the text is full"), ("CrossedSheet", 91, "the text is not a sheet"), ("CrossedSheet", 318, "no such letter"), ("CrossedSheet", 326, "no such cell"), ("CrossedSheet", 332, "no such cell or mark"), ("CrossedSheet", 337, "no such word"), ("CrossedSheet", 195, "a negative number of a sign"), ("CrossedSheet", 211, "the cell has two marks"), ("CrossedSheet", 227, "the other mark of the cell is decided for this letter"), ("CrossedSheet", 242, "no state is remembered"), ("CrossedSheet", 251, "these are not signs"), ("CrossedSheet", 283, "the script is negative or too long"), ("CrossedSheet", 321, "no such save slot"), ("CrossedSheet", 306, "nothing has been saved in this slot")]
def CAl : List (String × String) := [("java/lang/IllegalArgumentException", "java/lang/IllegalArgumentException"), ("java/lang/IllegalStateException", "java/lang/IllegalStateException"), ("java/lang/IndexOutOfBoundsException", "java/lang/IndexOutOfBoundsException")]
def DEl : List MethodName := [⟨"java/lang/RuntimeException", "<init>", "()V"⟩, ⟨"java/lang/RuntimeException", "<init>", "(Ljava/lang/String;)V"⟩, ⟨"java/lang/Exception", "<init>", "()V"⟩, ⟨"java/lang/Exception", "<init>", "(Ljava/lang/String;)V"⟩, ⟨"java/lang/Throwable", "<init>", "()V"⟩, ⟨"java/lang/Throwable", "<init>", "(Ljava/lang/String;)V"⟩]
def NOl : List Cond := CAl.map (fun q => Cond.castable q.1 q.2) ++ DEl.map (fun x => Cond.declares x)
def zE (lo : Nat) (U : State) : Prop := vx_Zq Bundle.tN "UNASSIGNED_STACK" Bundle.steD (fun q => lo ≤ q) U U.heap ∧ vx_Zq Bundle.tN "SUPPRESSED_SENTINEL" Bundle.listD (fun q => lo ≤ q) U U.heap ∧ (∀ q ∈ STl, ∃ sa, vk_R q.1 q.2.1 q.2.2 sa U) ∧ (∀ q ∈ CAl, va_Nw (.castable q.1 q.2) U) ∧ ∀ x ∈ DEl, va_Nw (.declares x) U
theorem zE.same {lo : Nat} {u U : State} (hv : u.vm = U.vm) (hh : U.heap = u.heap) (h : zE lo u) : zE lo U := by
  obtain ⟨h1, h2, h3, h4, h5⟩ := h
  have ha : u.vm.Alike U.vm := by rw [hv]; exact Vm.Alike.refl U.vm
  refine ⟨?_, ?_, fun q hq => ?_, fun q hq => va_Nw.same rfl hv (h4 q hq), fun x hx => va_Nw.same rfl hv (h5 x hx)⟩
  · rw [hh]; exact h1.moved ha
  · rw [hh]; exact h2.moved ha
  · obtain ⟨sa, hsa⟩ := h3 q hq
    exact ⟨sa, vk_R.same hv.symm hsa⟩
theorem zE.warm {lo : Nat} {s U : State} {H : Heap} {locs : List Loc} (hU : U.heap = H) (hW : s.WarmedH U.vm) (hS : va_S (fun q => lo ≤ q) s.heap H locs) (h : zE lo s) : zE lo U := by
  obtain ⟨h1, h2, h3, h4, h5⟩ := h
  refine ⟨?_, ?_, fun q hq => ?_, fun q hq => va_Nw.warmC hW (h4 q hq), fun x hx => va_Nw.warmD hW (h5 x hx)⟩
  · rw [hU]; exact (h1.kept hS.2.1).moved hW.alike
  · rw [hU]; exact (h2.kept hS.2.1).moved hW.alike
  · obtain ⟨sa, hsa⟩ := h3 q hq
    exact ⟨sa, vk_R.warm hW hsa⟩
abbrev zResX : Type := (Option Value ⊕ String) × zH
def zQX (D : va_G) (lo : Nat) (r : zResX) : Array Value → State → Outcome → State → Prop := fun _ st o t => (∃ v, r.1 = .inl v ∧ o = .returned v ∧ zR D lo r.2 t.heap) ∧ va_F (fun q => lo ≤ q) st t
def zXX (D : va_G) (lo : Nat) (r : zResX) : String → State → State → Prop := fun E st t => r.1 = .inr E ∧ zR D lo r.2 t.heap ∧ va_F (fun q => lo ≤ q) st t
def zZX (X : zX) (r : zResX) : State → Prop := vx_MQ (xb X) (zQX (xD X) (xlo X) r) (zXX (xD X) (xlo X) r) (xa X) (xs X) (xR X).cells (xR X).slots (fun q => xlo X ≤ q)
def zPX (D : va_G) (T : zT) (lo hi : Nat) (h : zH) : State → Prop := fun U => zP false D T lo hi h U ∧ zE lo U
def zMX (l : Launch) (y : MethodName) (ws : List Cond) (rm : Room) (D : va_G) (T : zT) (lo : Nat) (av : List Value) (hi : Nat) (h : zH) (r : zResX) : Prop :=
  vx_Met l y ws rm (va_Pc av (zPX D T lo hi h)) (zQX D lo r) (zXX D lo r) rm.cells rm.slots (fun q => lo ≤ q)
theorem zPX.calls {D : va_G} {T : zT} {lo hi : Nat} {h : zH} {av : List Value} : FrameBlind (va_Pc av (zPX D T lo hi h)) := fun a U g mk q => ⟨q.1, (zP.calls a U g mk ⟨q.1, q.2.1⟩).2, zE.same (u := U) (U := U.calling g mk a) rfl rfl q.2.2⟩
def zCX (X : zX) (cc : ByteArray) (nL : Nat) (own nm : String) (ret : Option FieldType) (fr lc : Nat) : Prop := zC X cc nL own nm ret fr lc ∧ zE (xlo X) (xs X) ∧ (∀ x ∈ (xc X).exceptionTable.toList, False) ∧ (xl X).stackTraces = false
def zx {α : Type} (cv : α → Option Value) (x : Except String α) : Option Value ⊕ String := match x with
  | .ok v => .inl (cv v)
  | .error E => .inr E
def cvI (v : Int32) : Option Value := some (.int v)
def cvU (_ : Unit) : Option Value := none
def zbx {α β : Type} (x : Option (Except String α × zH)) (G : α → zH → Option (Except String β × zH)) : Option (Except String β × zH) := match x with
  | none => none
  | some (.error E, h) => some (.error E, h)
  | some (.ok v, h) => G v h
theorem z_enterX {l : Launch} (hl9 : l.stackTraces = false) {y : MethodName} {cc : ByteArray} {maxL : Nat} {ret : Option FieldType} {own nm : String} {rm : Room} {D : va_G} {T : zT} {lo : Nat} {av : List Value} {hi : Nat} {h : zH} {r : zResX} {lv : List (Nat × Value)} (hy : plainName y.cls = true) (ho : y.cls = own) (hn : y.name = nm) (hl : (lg_sl av).length ≤ maxL) (hlv : lv_args 0 av = lv)
    (body : ∀ (p : Program) (e : Env) (s : State) (m : MethodId) (ar : Array Value) (below : List Frame) (meth : Method) (c : Code), zCX (p, l, e, rm, s, m, ar, below, meth, c, D, T, lo) cc maxL own nm ret rm.frames rm.locals →
      zW (p, l, e, rm, s, m, ar, below, meth, c, D, T, lo) maxL (zZX (p, l, e, rm, s, m, ar, below, meth, c, D, T, lo) r) rm.cells rm.slots false hi h 0 lv []) : zMX l y (.code y cc maxL ret :: TW) rm D T lo av hi h r := by
  unfold zMX
  refine vx_ofW (cc := cc) (maxL := maxL) (ret := ret) hy rfl ?_
  intro p e s m args below meth c s₁ B hml hnt hv
  obtain ⟨rfl, ⟨hlo, hR, hK, hal, hN⟩, hE⟩ := hv
  have hts := atoms_spec (ws := .code y cc maxL ret :: TW) B.pre
  have hown : s.vm.findClass own = some m.cls := ho ▸ findClass_of_methodNamed B.named
  have hnm : meth.name = nm := hn ▸ (name_of_methodNamed B.named B.method).1
  have C : zC (p, l, e, rm, s, m, av.toArray, below, meth, c, D, T, lo) cc maxL own nm ret rm.frames rm.locals := ⟨B.exec, B.bytes, hml, hown, fun w hw => hts w (List.mem_cons_of_mem _ hw), hK, hlo, B.notSynchronized, B.returns, hnm, Nat.le_refl _, Nat.le_refl _, hN⟩
  have hL := lv_entry av (n := maxL) hl
  rw [lg_entry_eq]
  rw [hlv] at hL
  exact body p e s m av.toArray below meth c ⟨C, hE, hnt, hl9⟩ s.heap [] _ 0 0 hR va_S.rf hal hL (Nat.le_of_eq (Nat.zero_add _)) (Nat.le_of_eq (Nat.zero_add _))
section ZThrow
variable {X : zX} {cc : ByteArray} {nL : Nat} {own nm : String} {ret : Option FieldType} {fr lc : Nat} {Z : State → Prop} {kc ks kc' ks' hi : Nat} {h : zH} {pc : Nat} {lv : List (Nat × Value)} {st stk : List Value} {ρ : Type} {r : ρ}
theorem z_preX (C : zCX X cc nL own nm ret fr lc) {H : Heap} {locs : List Loc} (hR : zR (xD X) (xlo X) h H) (hS : va_S (fun q => xlo X ≤ q) (xs X).heap H locs) (av : List Value) : ∀ U : State, U.heap = H → (xs X).WarmedH U.vm → va_Pc av (zPX (xD X) (xT X) (xlo X) hi h) av.toArray U := fun U hU hW =>
  ⟨rfl, (z_pre (al := false) C.1 hR hS (fun t => nomatch t) av U hU hW).2, C.2.1.warm hU hW hS⟩
theorem z_ireturnX (C : zCX X cc nL own nm (some .int) fr lc) {v : Int32} {R9 : zResX} (hd : decode cc pc = .ok (.ireturn, 1)) (e9 : (.inl (some (.int v)), h) = R9) : zW X nL (zZX X R9) kc ks false hi h pc lv [.int v] := by
  subst e9
  intro H locs ls cells slots hR hS ha hL hc hs
  exact W.widen (k := (xR X).cells) (n := (xR X).slots) (by omega) (by omega) (vx_ret (W.iret C.1.1 C.1.2.1 C.1.rt (fun t ht hW => ⟨⟨_, rfl, rfl, by rw [ht]; exact hR⟩, hS.F ht⟩) hS.2.2 hd C.1.s))
theorem z_zreturnX (C : zCX X cc nL own nm (some .boolean) fr lc) {v : Int32} {R9 : zResX} (hd : decode cc pc = .ok (.ireturn, 1)) (hv : v = 0 ∨ v = 1) (e9 : (.inl (some (.int v)), h) = R9) : zW X nL (zZX X R9) kc ks false hi h pc lv [.int v] := by
  subst e9
  intro H locs ls cells slots hR hS ha hL hc hs
  exact W.widen (k := (xR X).cells) (n := (xR X).slots) (by omega) (by omega) (vx_ret (W.zret C.1.1 C.1.2.1 C.1.rt (by rcases hv with rfl | rfl <;> rfl) (fun t ht hW => ⟨⟨_, rfl, rfl, by rw [ht]; exact hR⟩, hS.F ht⟩) hS.2.2 hd C.1.s))
theorem z_vreturnX (C : zCX X cc nL own nm none fr lc) {R9 : zResX} (hd : decode cc pc = .ok (.return_, 1)) (e9 : (.inl none, h) = R9) : zW X nL (zZX X R9) kc ks false hi h pc lv [] := by
  subst e9
  intro H locs ls cells slots hR hS ha hL hc hs
  exact W.widen (k := (xR X).cells) (n := (xR X).slots) (by omega) (by omega) (vx_ret (W.vret C.1.1 C.1.2.1 C.1.rt (fun t ht hW => ⟨⟨_, rfl, rfl, by rw [ht]; exact hR⟩, hS.F ht⟩) hS.2.2 hd C.1.s))
/-- a site of 'throw new E(text)' -/
def zTS (own E text : String) (ik is ic : Nat) : Prop := .classLink own ik E ∈ TW ∧ .initialized E ∈ TW ∧ (own, is, text) ∈ STl ∧ (∀ w ∈ (vx_atS own ic E EXN).filter goodWord, w ∈ TW) ∧ (∀ w ∈ (vx_atS own ic E EXN).filter (fun w => !goodWord w), w ∈ NOl) ∧ (∀ w ∈ Cond.classLink own ik E :: Cond.initialized E :: vx_atS own ic E EXN, vx_ot w = true) ∧ Bundle.fit E = true ∧ (∀ n ∈ EXN, Bundle.fit n = true)
theorem zTS.at {own E text : String} {ik is ic : Nat} (hT : zTS own E text ik is ic) (C : zCX X cc nL own nm ret fr lc) : ∀ w ∈ vx_atS own ic E EXN, w.before (xa X) (xs X) = true := by
  refine vx_hat (B := NOl) (fun w hw => C.1.W w (hT.2.2.2.1 w hw)) hT.2.2.2.2.1 fun w hw => ?_
  rcases List.mem_append.mp hw with h1 | h1
  · obtain ⟨q, hq, rfl⟩ := List.mem_map.mp h1
    exact va_Nw.use rfl (C.2.1.2.2.2.1 q hq)
  · obtain ⟨x, hx, rfl⟩ := List.mem_map.mp h1
    exact va_Nw.use rfl (C.2.1.2.2.2.2 x hx)
theorem z_throw (C : zCX X cc nL own nm ret fr lc) {E text : String} {ik is ic : Nat} {R9 : zResX} (hT : zTS own E text ik is ic)
    (d0 : decode cc pc = .ok (.new ik, 3)) (d3 : decode cc (pc + 3) = .ok (.dup, 1)) (d4 : decode cc (pc + 4) = .ok (.ldc is, 2)) (d6 : decode cc (pc + 6) = .ok (.invokespecial ic, 3)) (d9 : decode cc (pc + 9) = .ok (.athrow, 1))
    (hroom : 6 ≤ fr ∧ (st.map fun v => v.category).sum + 82 ≤ lc) (hk : 1 ≤ kc ∧ 6 ≤ ks) (e9 : (.inr E, h) = R9) : zW X nL (zZX X R9) kc ks false hi h pc lv st := by
  subst e9
  intro H locs ls cells slots hR hS ha hL hc hs
  obtain ⟨sa, hsa⟩ := C.2.1.2.2.1 _ hT.2.2.1
  have hf := C.1.f
  have hlc := C.1.c
  exact vx_throwS C.1.1 C.1.2.1 C.2.2.2 C.1.o hT.2.2.2.2.2.2.1 hT.2.2.2.2.2.2.2 (C.1.W _ hT.1) (C.1.W _ hT.2.1) hsa (hT.at C) hT.2.2.2.2.2.1 C.2.1.1 C.2.1.2.1 hS (by rw [C.1.l]; exact hL.1) d0 d3 d4 d6 d9 (fun x hx => (C.2.2.1 x hx).elim)
    (by show 2 + 3 < _; omega) (by show _ + (13 * (2 + 1) + 43) ≤ _; omega) (by omega) (by omega) C.1.s
    (fun t hvm hz hk9 => ⟨rfl, fun a x hax => ⟨(hR a x hax).1, (hR a x hax).2.kept (hk9 a (hR.lt hax))⟩, ⟨Nat.le_trans hS.1 hz, fun q h1 h2 => (hk9 q (Nat.lt_of_lt_of_le h1 hS.1)).trans (hS.2.1 q h1 h2)⟩⟩)
    hS.2.2 (by omega) (by omega)
theorem z_throwW (C : zCX X cc nL own nm ret fr lc) {E text : String} {ik is ic : Nat} {R9 : zResX} (hT : zTS own E text ik is ic)
    (d0 : decode cc pc = .ok (.new ik, 3)) (d3 : decode cc (pc + 3) = .ok (.dup, 1)) (d4 : decode cc (pc + 4) = .ok (.ldc_w is, 3)) (d7 : decode cc (pc + 7) = .ok (.invokespecial ic, 3)) (d10 : decode cc (pc + 10) = .ok (.athrow, 1))
    (hroom : 6 ≤ fr ∧ (st.map fun v => v.category).sum + 82 ≤ lc) (hk : 1 ≤ kc ∧ 6 ≤ ks) (e9 : (.inr E, h) = R9) : zW X nL (zZX X R9) kc ks false hi h pc lv st := by
  subst e9
  intro H locs ls cells slots hR hS ha hL hc hs
  obtain ⟨sa, hsa⟩ := C.2.1.2.2.1 _ hT.2.2.1
  have hf := C.1.f
  have hlc := C.1.c
  exact vx_throwSW C.1.1 C.1.2.1 C.2.2.2 C.1.o hT.2.2.2.2.2.2.1 hT.2.2.2.2.2.2.2 (C.1.W _ hT.1) (C.1.W _ hT.2.1) hsa (hT.at C) hT.2.2.2.2.2.1 C.2.1.1 C.2.1.2.1 hS (by rw [C.1.l]; exact hL.1) d0 d3 d4 d7 d10 (fun x hx => (C.2.2.1 x hx).elim)
    (by show 2 + 3 < _; omega) (by show _ + (13 * (2 + 1) + 43) ≤ _; omega) (by omega) (by omega) C.1.s
    (fun t hvm hz hk9 => ⟨rfl, fun a x hax => ⟨(hR a x hax).1, (hR a x hax).2.kept (hk9 a (hR.lt hax))⟩, ⟨Nat.le_trans hS.1 hz, fun q h1 h2 => (hk9 q (Nat.lt_of_lt_of_le h1 hS.1)).trans (hS.2.1 q h1 h2)⟩⟩)
    hS.2.2 (by omega) (by omega)
theorem z_finX (C : zCX X cc nL own nm ret fr lc) {H : Heap} {locs : List Loc} {ls : Array Slot} {cells slots mc ms : Nat} {r1 R9 : zResX} {a : Array Value} (hS : va_S (fun q => xlo X ≤ q) (xs X).heap H locs)
    (hr : vx_Run (xp X) (xl X) (xe X) (xR X) (xs X) (xm X) (xa X) (xb X) (xM X) (xc X) H locs cells slots mc ms (F0 (xm X) pc ls stk) st (zQX (xD X) (xlo X) r1 a) (zXX (xD X) (xlo X) r1) (fun q => xlo X ≤ q)) (hc : cells + mc ≤ (xR X).cells) (hs : slots + ms ≤ (xR X).slots)
    (ke : ∀ E, r1.1 = .inr E → (.inr E, r1.2) = R9)
    (kk : ∀ (v : Option Value) (H1 : Heap) (locs1 : List Loc), r1.1 = .inl v → zR (xD X) (xlo X) r1.2 H1 → va_S (fun q => xlo X ≤ q) (xs X).heap H1 locs1 → W (xp X) (xl X) (xe X) (xR X) (xs X) (xm X) (xa X) (xb X) (xM X) (xc X) H1 locs1 (cells + mc) (slots + ms) (zZX X R9) (F0 (xm X) (pc + 3) ls (v.toList ++ st))) :
    W (xp X) (xl X) (xe X) (xR X) (xs X) (xm X) (xa X) (xb X) (xM X) (xc X) H locs cells slots (zZX X R9) (F0 (xm X) pc ls stk) := by
  intro T hT X9
  have keep : ∀ (st₀ t T' : State) (L : List Loc), st₀.heap = H → T'.heap = t.heap → (∀ q ∈ L, xlo X ≤ q.base) → va_F (fun q => xlo X ≤ q) st₀ t → va_S (fun q => xlo X ≤ q) (xs X).heap T'.heap (locs ++ L) := by
    intro st₀ t T' L h0 e1 hL hF
    obtain ⟨hz, hk⟩ := hF
    rw [h0] at hz hk
    exact ⟨Nat.le_trans hS.1 (by rw [e1]; exact hz), fun q h1 h2 => by rw [e1, hk q (Nat.lt_of_lt_of_le h1 hS.1) h2]; exact hS.2.1 q h1 h2, fun q hq => by
      rcases List.mem_append.mp hq with h | h
      · exact hS.2.2 q h
      · exact hL q h⟩
  rcases hr T hT X9 with ⟨v, st₀, t, T', L, h0, X', hL, e1, e2, ⟨⟨v', hv, hv2, hRt⟩, hF⟩, st9⟩ | ⟨q, st₀, t, T', L, E, ce, h0, X', hL, e1, e2, ⟨hv, hRt, hF⟩, hce, hcv, hcl, st9⟩
  · cases hv2
    obtain ⟨t2, a1, b1⟩ := kk v T'.heap (locs ++ L) hv (by rw [e1]; exact hRt) (keep st₀ t T' L h0 e1 hL hF) T' rfl X'
    exact ⟨t2, st9 t2 a1, b1⟩
  · have hS' := keep st₀ t T' L h0 e1 hL hF
    have hRt' : zR (xD X) (xlo X) r1.2 T'.heap := by rw [e1]; exact hRt
    have e9 := ke E hv
    subst e9
    obtain ⟨t2, a1, b1⟩ := vx_out (p := xp X) (l := xl X) (e := xe X) (R := xR X) (s := xs X) (m := xm X) (args := xa X) (below := xb X) (meth := xM X) (c := xc X) (H := T'.heap) (locs := locs ++ L) (cells := cells + mc) (slots := slots + ms) (free := fun q => xlo X ≤ q) (ls := ls) (rest := st) (pc := pc) (Qc := zQX (xD X) (xlo X) (.inr E, r1.2)) (XC := zXX (xD X) (xlo X) (.inr E, r1.2)) (mc := (xR X).cells) (ms := (xR X).slots) (q := q) (E := E) (ce := ce) (fun x hx => (C.2.2.1 x hx).elim) C.1.s (by rw [e1]; exact hce) hcv hcl (fun t8 ht8 _ => ⟨rfl, by rw [ht8]; exact hRt', hS'.F ht8⟩) hS'.2.2 hc hs T' rfl X'
    exact ⟨t2, st9.trans a1, b1⟩
variable {y : MethodName} {cb : ByteArray} {maxL n index b ci : Nat} {rty : Option FieldType} {rm : Room} {as : List Value} {C' : String} {T' : u_T} {N' : Nat} {α β : Type} {cvA : α → Option Value} {cvB : β → Option Value} {x : Option (Except String α × zH)} {G : α → zH → Option (Except String β × zH)} {r9 : Except String β × zH}
theorem z_splitX {P : Prop} (hf : zbx x G = some r9) (k1 : ∀ E h1, x = some (.error E, h1) → r9 = (.error E, h1) → P) (k2 : ∀ v h1, x = some (.ok v, h1) → G v h1 = some r9 → P) : P := by
  unfold zbx at hf
  split at hf
  · cases hf
  · cases hf; exact k1 _ _ rfl rfl
  · exact k2 _ _ rfl hf
theorem z_callVX (C : zCX X cc nL own nm ret fr lc) (hf : zbx x G = some r9) (hM : ∀ x9 h9, x = some (x9, h9) → zMX (xl X) y (.code y cb maxL rty :: TW) rm (xD X) (xT X) (xlo X) (.ref b :: as) hi h (zx cvA x9, h9)) (hO : ∀ x9, x = some x9 → ∃ fs, h b = some (.inr (ci, fs))) (hcl : vwCl[ci]? = some (C', T', N')) (hG : GoodIn TW (wsV own index C' y (.code y cb maxL rty :: TW))) (hyd : y.cls = C' ∧ y.cls ≠ "java/lang/invoke/MethodHandle" ∧ y.cls ≠ "java/lang/invoke/VarHandle" ∧ (parseMethodDescriptor y.desc).map (fun d => d.parameters.length) = some n) (hd : decode cc pc = .ok (.invokevirtual index, 3)) (hn : as.length = n) (hroom : rm.frames + 1 ≤ fr ∧ 8 + (maxL + 11) + rm.locals ≤ lc) (hk : rm.cells + kc' = kc ∧ rm.slots + ks' = ks) (hw : (st.map fun v => v.category).sum ≤ 8) (hstk : stk = as.reverse ++ .ref b :: st)
    (kk : ∀ v h', G v h' = some r9 → zW X nL (zZX X (zx cvB r9.1, r9.2)) kc' ks' false hi h' (pc + 3) lv ((cvA v).toList ++ st)) : zW X nL (zZX X (zx cvB r9.1, r9.2)) kc ks false hi h pc lv stk := by
  intro H locs ls cells slots hR hS ha hL hc hs
  have hf9 := C.1.f
  have hlc := C.1.c
  have run : ∀ x9 h9, x = some (x9, h9) → vx_Run (xp X) (xl X) (xe X) (xR X) (xs X) (xm X) (xa X) (xb X) (xM X) (xc X) H locs cells slots rm.cells rm.slots (F0 (xm X) pc ls stk) st (zQX (xD X) (xlo X) (zx cvA x9, h9) (Value.ref b :: as).toArray) (zXX (xD X) (xlo X) (zx cvA x9, h9)) (fun q => xlo X ≤ q) := fun x9 h9 e => by
    obtain ⟨fs, ho⟩ := hO _ e
    exact vx_runV (cells := cells) (slots := slots) (locs := locs) (As := as) (rest := st) (g := F0 (xm X) pc ls stk) ⟨C.1.1, C.1.2.1, C.1.l, C.1.o, C.1.W⟩ (hM x9 h9 e) (cwV n C.1.W hG rfl rfl rfl hyd ⟨by omega, by omega⟩) ⟨zPX.calls, va_recv C.1.K (hR.one ho) hcl (q0 := 0) rfl, z_preX C hR hS (.ref b :: as)⟩ rfl hn hL.1 hstk (by show 2 * 0 + _ ≤ 8; omega) hd ⟨by omega, by omega⟩
  refine z_splitX hf (fun E h1 e er => ?_) (fun v h1 e hg => ?_)
  · subst er
    exact z_finX C hS (run _ _ e) (by omega) (by omega) (fun E9 e9 => by cases e9; rfl) (fun v H1 locs1 e9 => by cases e9)
  · refine z_finX C hS (run _ _ e) (by omega) (by omega) (fun E9 e9 => by cases e9) (fun v9 H1 locs1 e9 hR1 hS1 => ?_)
    cases e9
    exact kk v h1 hg H1 locs1 ls _ _ hR1 hS1 (fun t => nomatch t) hL (by omega) (by omega)
theorem z_callSX (C : zCX X cc nL own nm ret fr lc) (hf : zbx x G = some r9) (hM : ∀ x9 h9, x = some (x9, h9) → zMX (xl X) y (.code y cb maxL rty :: TW) rm (xD X) (xT X) (xlo X) as hi h (zx cvA x9, h9)) (hG : GoodIn TW (va_wsS own index y (.code y cb maxL rty :: TW))) (hyd : y.cls ≠ "java/lang/invoke/MethodHandle" ∧ y.cls ≠ "java/lang/invoke/VarHandle" ∧ (parseMethodDescriptor y.desc).map (fun d => d.parameters.length) = some n) (hd : decode cc pc = .ok (.invokestatic index, 3)) (hn : as.length = n) (hroom : rm.frames + 1 ≤ fr ∧ 8 + (maxL + 11) + rm.locals ≤ lc) (hk : rm.cells + kc' = kc ∧ rm.slots + ks' = ks) (hw : (st.map fun v => v.category).sum ≤ 8) (hstk : stk = as.reverse ++ st)
    (kk : ∀ v h', G v h' = some r9 → zW X nL (zZX X (zx cvB r9.1, r9.2)) kc' ks' false hi h' (pc + 3) lv ((cvA v).toList ++ st)) : zW X nL (zZX X (zx cvB r9.1, r9.2)) kc ks false hi h pc lv stk := by
  intro H locs ls cells slots hR hS ha hL hc hs
  have hf9 := C.1.f
  have hlc := C.1.c
  have run : ∀ x9 h9, x = some (x9, h9) → vx_Run (xp X) (xl X) (xe X) (xR X) (xs X) (xm X) (xa X) (xb X) (xM X) (xc X) H locs cells slots rm.cells rm.slots (F0 (xm X) pc ls stk) st (zQX (xD X) (xlo X) (zx cvA x9, h9) as.toArray) (zXX (xD X) (xlo X) (zx cvA x9, h9)) (fun q => xlo X ≤ q) := fun x9 h9 e =>
    vx_runS (cells := cells) (slots := slots) (locs := locs) (As := as) (rest := st) (g := F0 (xm X) pc ls stk) ⟨C.1.1, C.1.2.1, C.1.l, C.1.o, C.1.W⟩ (hM x9 h9 e) (va_cwS n C.1.W hG rfl rfl rfl hyd ⟨by omega, by omega⟩) ⟨zPX.calls, z_preX C hR hS as⟩ rfl hn hL.1 hstk (by show 2 * 0 + _ ≤ 8; omega) hd ⟨by omega, by omega⟩
  refine z_splitX hf (fun E h1 e er => ?_) (fun v h1 e hg => ?_)
  · subst er
    exact z_finX C hS (run _ _ e) (by omega) (by omega) (fun E9 e9 => by cases e9; rfl) (fun v H1 locs1 e9 => by cases e9)
  · refine z_finX C hS (run _ _ e) (by omega) (by omega) (fun E9 e9 => by cases e9) (fun v9 H1 locs1 e9 hR1 hS1 => ?_)
    cases e9
    exact kk v h1 hg H1 locs1 ls _ _ hR1 hS1 (fun t => nomatch t) hL (by omega) (by omega)
end ZThrow
end
section
/-! methods of the law that catch, and the law itself -/
def NCl : List (String × String) := [("java/lang/IllegalArgumentException", "java/lang/IllegalStateException"), ("java/lang/IllegalArgumentException", "java/lang/IndexOutOfBoundsException"), ("java/lang/IllegalStateException", "java/lang/IllegalArgumentException"), ("java/lang/IllegalStateException", "java/lang/IndexOutOfBoundsException"), ("java/lang/IndexOutOfBoundsException", "java/lang/IllegalArgumentException"), ("java/lang/IndexOutOfBoundsException", "java/lang/IllegalStateException")]
def zNC (U : State) : Prop := ∀ q ∈ NCl, va_Nc q.1 q.2 U
def zPW (D : va_G) (T : zT) (lo hi : Nat) (h : zH) : State → Prop := fun U => zPX D T lo hi h U ∧ zNC U
theorem zPW.calls {D : va_G} {T : zT} {lo hi : Nat} {h : zH} {av : List Value} : FrameBlind (va_Pc av (zPW D T lo hi h)) := fun a U g mk q => ⟨q.1, (zPX.calls a U g mk ⟨q.1, q.2.1⟩).2, fun z hz => (q.2.2 z hz).moved (U := U.calling g mk a) (Vm.Alike.refl U.vm)⟩
def zMW (l : Launch) (y : MethodName) (ws : List Cond) (rm : Room) (D : va_G) (T : zT) (lo : Nat) (av : List Value) (hi : Nat) (h : zH) (r : zRes) : Prop :=
  Met l y ws rm (va_Pc av (zPW D T lo hi h)) (zQ false D lo r) rm.cells rm.slots (fun q => lo ≤ q)
def zCW (X : zX) (cc : ByteArray) (nL : Nat) (own nm : String) (ret : Option FieldType) (fr lc : Nat) (hh : List (Nat × Nat × Nat × Nat)) : Prop := zC X cc nL own nm ret fr lc ∧ zE (xlo X) (xs X) ∧ zNC (xs X) ∧ (xc X).exceptionTable.toList = tableOf hh ∧ (xl X).stackTraces = false
theorem z_ofWH {l : Launch} {y : MethodName} {ws ws' : List Cond} {rm : Room} {Pc : Array Value → State → Prop} {Qc : Array Value → State → Outcome → State → Prop} {mc ms : Nat} {free : Addr → Prop} {cc : ByteArray} {maxL : Nat} {ret : Option FieldType} {hh : List (Nat × Nat × Nat × Nat)}
    (hy : plainName y.cls = true) (hw : ws = Cond.codeWith y cc maxL ret hh :: ws')
    (body : ∀ p e s m args below meth c s₁, BodyLoose p l y (headSpec ws rm) cc maxL ret e s m args below meth c s₁ → c.maxLocals = maxL → Pc args s →
      W p l e (headSpec ws rm).room s m args below meth c s.heap [] 0 0 (MQ below Qc args s mc ms free) (entryFrame m args maxL)) : Met l y ws rm Pc Qc mc ms free := by
  refine MetFree.of_bodyS (code := cc) (maxLocals := maxL) (ret := ret) hy ?_ ?_
  · intro args s m h hn
    obtain ⟨m9, meth, c, hn9, h1, h2, h3, h4, -, h5, h6, -⟩ := Cond.codeWith_spec (atoms_spec (ws := ws) h _ (by rw [hw]; exact List.mem_cons_self))
    cases hn.symm.trans hn9
    exact ⟨meth, c, h1, h2, h3, h4, h5, h6⟩
  · intro p e s m args below meth c s₁ B hml hP _
    have hh0 : s₁.heap = s.heap := by rw [B.state]; rfl
    obtain ⟨t, a1, o, b1, b2, b3⟩ := body p e s m args below meth c s₁ B hml hP s₁ hh0 (Stand.of_body B)
    exact ⟨t, o, a1, b1, b2, ⟨b3.1, b3.2⟩⟩
theorem z_enterW {l : Launch} (hl9 : l.stackTraces = false) {y : MethodName} {cc : ByteArray} {maxL : Nat} {ret : Option FieldType} {own nm : String} {rm : Room} {D : va_G} {T : zT} {lo : Nat} {av : List Value} {hi : Nat} {h : zH} {r : zRes} {lv : List (Nat × Value)} {hh : List (Nat × Nat × Nat × Nat)} (hy : plainName y.cls = true) (ho : y.cls = own) (hn : y.name = nm) (hl : (lg_sl av).length ≤ maxL) (hlv : lv_args 0 av = lv)
    (body : ∀ (p : Program) (e : Env) (s : State) (m : MethodId) (ar : Array Value) (below : List Frame) (meth : Method) (c : Code), zCW (p, l, e, rm, s, m, ar, below, meth, c, D, T, lo) cc maxL own nm ret rm.frames rm.locals hh →
      zW (p, l, e, rm, s, m, ar, below, meth, c, D, T, lo) maxL (zZ (p, l, e, rm, s, m, ar, below, meth, c, D, T, lo) false r) rm.cells rm.slots false hi h 0 lv []) : zMW l y (.codeWith y cc maxL ret hh :: TW) rm D T lo av hi h r := by
  unfold zMW
  refine z_ofWH (cc := cc) (maxL := maxL) (ret := ret) (hh := hh) hy rfl ?_
  intro p e s m args below meth c s₁ B hml hv
  obtain ⟨rfl, ⟨⟨hlo, hR, hK, hal, hN⟩, hE⟩, hNC⟩ := hv
  have hts := atoms_spec (ws := .codeWith y cc maxL ret hh :: TW) B.pre
  have htab := vx_table (x := y) B (hts _ List.mem_cons_self)
  have hown : s.vm.findClass own = some m.cls := ho ▸ findClass_of_methodNamed B.named
  have hnm : meth.name = nm := hn ▸ (name_of_methodNamed B.named B.method).1
  have C : zC (p, l, e, rm, s, m, av.toArray, below, meth, c, D, T, lo) cc maxL own nm ret rm.frames rm.locals := ⟨B.exec, B.bytes, hml, hown, fun w hw => hts w (List.mem_cons_of_mem _ hw), hK, hlo, B.notSynchronized, B.returns, hnm, Nat.le_refl _, Nat.le_refl _, hN⟩
  have hL := lv_entry av (n := maxL) hl
  rw [lg_entry_eq]
  rw [hlv] at hL
  exact body p e s m av.toArray below meth c ⟨C, hE, hNC, htab, hl9⟩ s.heap [] _ 0 0 hR va_S.rf hal hL (Nat.le_of_eq (Nat.zero_add _)) (Nat.le_of_eq (Nat.zero_add _))
def zbh {α ρ : Type} (x : Option (Except String α × zH)) (G : α → zH → Option ρ) (K : String → zH → Option ρ) : Option ρ := match x with
  | none => none
  | some (.error E, h) => K E h
  | some (.ok v, h) => G v h
theorem zGSW {own : String} {idx : Nat} {y : MethodName} {cb : ByteArray} {maxL : Nat} {ret : Option FieldType} {hh : List (Nat × Nat × Nat × Nat)} (h1 : .methodLink own idx y ∈ TW) (h2 : .static y ∈ TW) (h4 : .initialized y.cls ∈ TW) (h5 : .codeWith y cb maxL ret hh ∈ TW) : GoodIn TW (va_wsS own idx y (.codeWith y cb maxL ret hh :: TW)) := by
  intro w hw
  unfold va_wsS at hw
  rcases List.mem_append.mp hw with h | h
  · rcases List.mem_cons.mp h with rfl | h
    · exact ⟨h1, TWg h1⟩
    rcases List.mem_cons.mp h with rfl | h
    · exact ⟨h2, TWg h2⟩
    rcases List.mem_cons.mp h with rfl | h
    · exact ⟨h4, TWg h4⟩
    exact absurd h List.not_mem_nil
  · rcases List.mem_cons.mp h with rfl | h
    · exact ⟨h5, TWg h5⟩
    · exact ⟨h, TWg h⟩
section ZCatch
variable {X : zX} {cc : ByteArray} {nL : Nat} {own nm : String} {ret : Option FieldType} {fr lc : Nat} {Z : State → Prop} {kc ks kc' ks' hi : Nat} {h : zH} {pc : Nat} {lv : List (Nat × Value)} {st stk : List Value} {ρ : Type} {r : ρ} {hh : List (Nat × Nat × Nat × Nat)} {al : Bool}
/-- caught here: the handler goes on -/
def zHd (X : zX) (own : String) (nL : Nat) (Z : State → Prop) (kc ks hi : Nat) (h : zH) (pc : Nat) (lv : List (Nat × Value)) (hh : List (Nat × Nat × Nat × Nat)) (E : String) : Prop :=
  ∃ (pre : List ExceptionTableEntry) (x9 : ExceptionTableEntry) (suf : List ExceptionTableEntry) (name : String), tableOf hh = pre ++ x9 :: suf ∧ (∀ z ∈ pre, covers z pc = false ∨ (z.catchType ≠ 0 ∧ ∃ n9 : String, .classLink own z.catchType n9 ∈ TW ∧ (E, n9) ∈ NCl)) ∧ covers x9 pc = true ∧ x9.catchType ≠ 0 ∧ .classLink own x9.catchType name ∈ TW ∧ (E, name) ∈ CAl ∧ ∀ q : Nat, zW X nL Z kc ks false hi h x9.handlerPc lv [.ref q]
theorem z_finH (C : zCW X cc nL own nm ret fr lc hh) {H : Heap} {locs : List Loc} {ls : Array Slot} {cells slots mc ms : Nat} {r1 : zResX} {a : Array Value} (hS : va_S (fun q => xlo X ≤ q) (xs X).heap H locs) (hL : lv_has ls nL lv)
    (hr : vx_Run (xp X) (xl X) (xe X) (xR X) (xs X) (xm X) (xa X) (xb X) (xM X) (xc X) H locs cells slots mc ms (F0 (xm X) pc ls stk) st (zQX (xD X) (xlo X) r1 a) (zXX (xD X) (xlo X) r1) (fun q => xlo X ≤ q)) (hc : cells + (mc + kc') ≤ (xR X).cells) (hs : slots + (ms + ks') ≤ (xR X).slots)
    (ke : ∀ E, r1.1 = .inr E → zHd X own nL Z kc' ks' hi r1.2 pc lv hh E)
    (kk : ∀ (v : Option Value) (H1 : Heap) (locs1 : List Loc), r1.1 = .inl v → zR (xD X) (xlo X) r1.2 H1 → va_S (fun q => xlo X ≤ q) (xs X).heap H1 locs1 → W (xp X) (xl X) (xe X) (xR X) (xs X) (xm X) (xa X) (xb X) (xM X) (xc X) H1 locs1 (cells + mc) (slots + ms) Z (F0 (xm X) (pc + 3) ls (v.toList ++ st))) :
    W (xp X) (xl X) (xe X) (xR X) (xs X) (xm X) (xa X) (xb X) (xM X) (xc X) H locs cells slots Z (F0 (xm X) pc ls stk) := by
  intro T hT X9
  have keep : ∀ (st₀ t T' : State) (L : List Loc), st₀.heap = H → T'.heap = t.heap → (∀ q ∈ L, xlo X ≤ q.base) → va_F (fun q => xlo X ≤ q) st₀ t → va_S (fun q => xlo X ≤ q) (xs X).heap T'.heap (locs ++ L) := by
    intro st₀ t T' L h0 e1 hL hF
    obtain ⟨hz, hk⟩ := hF
    rw [h0] at hz hk
    exact ⟨Nat.le_trans hS.1 (by rw [e1]; exact hz), fun q h1 h2 => by rw [e1, hk q (Nat.lt_of_lt_of_le h1 hS.1) h2]; exact hS.2.1 q h1 h2, fun q hq => by
      rcases List.mem_append.mp hq with h | h
      · exact hS.2.2 q h
      · exact hL q h⟩
  rcases hr T hT X9 with ⟨v, st₀, t, T', L, h0, X', hL1, e1, e2, ⟨⟨v', hv, hv2, hRt⟩, hF⟩, st9⟩ | ⟨q, st₀, t, T', L, E, ce, h0, X', hL1, e1, e2, ⟨hv, hRt, hF⟩, hce, hcv, hcl, st9⟩
  · cases hv2
    obtain ⟨t2, a1, b1⟩ := kk v T'.heap (locs ++ L) hv (by rw [e1]; exact hRt) (keep st₀ t T' L h0 e1 hL1 hF) T' rfl X'
    exact ⟨t2, st9 t2 a1, b1⟩
  · have hS' := keep st₀ t T' L h0 e1 hL1 hF
    have hRt' : zR (xD X) (xlo X) r1.2 T'.heap := by rw [e1]; exact hRt
    obtain ⟨pre, x9, suf, name, g1, g2, g3, g4, g5, g6, g7⟩ := ke E hv
    have hpass : ∀ z ∈ pre, covers z pc = false ∨ (z.catchType ≠ 0 ∧ ∃ n9 : String, (Cond.classLink own z.catchType n9).before (xa X) (xs X) = true ∧ va_Nc E n9 (xs X)) := fun z hz => (g2 z hz).imp id (fun ⟨a9, n9, b9, c9⟩ => ⟨a9, n9, C.1.W _ b9, C.2.2.1 _ c9⟩)
    have hcast : (Cond.castable E name).before (xa X) (xs X) = true := va_Nw.use rfl (C.2.1.2.2.2.1 _ g6)
    have kw := g7 q T'.heap (locs ++ L) ls (cells + mc) (slots + ms) hRt' hS' (fun t => nomatch t) hL (by omega) (by omega)
    obtain ⟨t2, a1, b1⟩ := vx_catch (ls := ls) (rest := st) (pc := pc) C.1.o pre x9 suf (C.2.2.2.1.trans g1) hpass g3 g4 (C.1.W _ g5) hcast (by rw [e1]; exact hce) hcv hcl kw T' rfl X'
    exact ⟨t2, st9.trans a1, b1⟩
variable {y : MethodName} {cb : ByteArray} {maxL n index b ci : Nat} {rty : Option FieldType} {rm : Room} {as : List Value} {C' : String} {T' : u_T} {N' : Nat} {α : Type} {cvA : α → Option Value} {x : Option (Except String α × zH)} {G : α → zH → Option ρ} {K : String → zH → Option ρ}
theorem z_callVH (C : zCW X cc nL own nm ret fr lc hh) (hf : zbh x G K = some r) (hM : ∀ x9 h9, x = some (x9, h9) → zMX (xl X) y (.code y cb maxL rty :: TW) rm (xD X) (xT X) (xlo X) (.ref b :: as) hi h (zx cvA x9, h9)) (hO : ∀ x9, x = some x9 → ∃ fs, h b = some (.inr (ci, fs))) (hcl : vwCl[ci]? = some (C', T', N')) (hG : GoodIn TW (wsV own index C' y (.code y cb maxL rty :: TW))) (hyd : y.cls = C' ∧ y.cls ≠ "java/lang/invoke/MethodHandle" ∧ y.cls ≠ "java/lang/invoke/VarHandle" ∧ (parseMethodDescriptor y.desc).map (fun d => d.parameters.length) = some n) (hd : decode cc pc = .ok (.invokevirtual index, 3)) (hn : as.length = n) (hroom : rm.frames + 1 ≤ fr ∧ 8 + (maxL + 11) + rm.locals ≤ lc) (hk : rm.cells + kc' = kc ∧ rm.slots + ks' = ks) (hw : (st.map fun v => v.category).sum ≤ 8) (hstk : stk = as.reverse ++ .ref b :: st)
    (kk : ∀ v h', G v h' = some r → zW X nL Z kc' ks' false hi h' (pc + 3) lv ((cvA v).toList ++ st)) (kx : ∀ E h', K E h' = some r → zHd X own nL Z kc' ks' hi h' pc lv hh E) : zW X nL Z kc ks false hi h pc lv stk := by
  intro H locs ls cells slots hR hS ha hL hc hs
  have hf9 := C.1.f
  have hlc := C.1.c
  have hXX : zE (xlo X) (xs X) := C.2.1
  have hpre : ∀ U : State, U.heap = H → (xs X).WarmedH U.vm → va_Pc (.ref b :: as) (zPX (xD X) (xT X) (xlo X) hi h) (Value.ref b :: as).toArray U := fun U hU hW => ⟨rfl, (z_pre (al := false) C.1 hR hS (fun t => nomatch t) (.ref b :: as) U hU hW).2, hXX.warm hU hW hS⟩
  have run : ∀ x9 h9, x = some (x9, h9) → vx_Run (xp X) (xl X) (xe X) (xR X) (xs X) (xm X) (xa X) (xb X) (xM X) (xc X) H locs cells slots rm.cells rm.slots (F0 (xm X) pc ls stk) st (zQX (xD X) (xlo X) (zx cvA x9, h9) (Value.ref b :: as).toArray) (zXX (xD X) (xlo X) (zx cvA x9, h9)) (fun q => xlo X ≤ q) := fun x9 h9 e => by
    obtain ⟨fs, ho⟩ := hO _ e
    exact vx_runV (cells := cells) (slots := slots) (locs := locs) (As := as) (rest := st) (g := F0 (xm X) pc ls stk) ⟨C.1.1, C.1.2.1, C.1.l, C.1.o, C.1.W⟩ (hM x9 h9 e) (cwV n C.1.W hG rfl rfl rfl hyd ⟨by omega, by omega⟩) ⟨zPX.calls, va_recv C.1.K (hR.one ho) hcl (q0 := 0) rfl, hpre⟩ rfl hn hL.1 hstk (by show 2 * 0 + _ ≤ 8; omega) hd ⟨by omega, by omega⟩
  unfold zbh at hf
  split at hf
  · cases hf
  · exact z_finH (kc' := kc') (ks' := ks') (hi := hi) C hS hL (run _ _ rfl) (by omega) (by omega) (fun E9 e9 => by cases e9; exact kx _ _ hf) (fun v H1 locs1 e9 => by cases e9)
  · refine z_finH (kc' := kc') (ks' := ks') (hi := hi) C hS hL (run _ _ rfl) (by omega) (by omega) (fun E9 e9 => by cases e9) (fun v9 H1 locs1 e9 hR1 hS1 => ?_)
    cases e9
    exact kk _ _ hf H1 locs1 ls _ _ hR1 hS1 (fun t => nomatch t) hL (by omega) (by omega)
/-- the law's own rows -/
def zLC (X : zX) (fr lc bs L : Nat) (xv : Nat → Int32) : Prop := zC X cL_law 7 RL (xM X).name (some .boolean) fr lc ∧ zE (xlo X) (xs X) ∧ zNC (xs X) ∧ (xl X).stackTraces = false ∧ va_X bs L xv (xs X) (xs X).heap ∧ bs < (xs X).heap.size ∧ xlo X = (xs X).heap.size
def zsc (xv : Nat → Int32) (L : Nat) (i : Int32) : Option Int32 := if zin i L then some (xv i.toNatClampNeg) else none
theorem z_sld {bs L : Nat} {xv : Nat → Int32} {G : Int32 → Option ρ} (C : zLC X fr lc bs L xv) {i : Int32} (hd : decode cL_law pc = .ok (.iaload, 1)) (hf : (zsc xv L i).bind G = some r) (kk : ∀ v, G v = some r → zW X 7 Z kc ks al hi h (pc + 1) lv (.int v :: st)) : zW X 7 Z kc ks al hi h pc lv (.int i :: .ref bs :: st) := by
  obtain ⟨v, h1, h2⟩ := zbind hf
  have kk := kk v h2
  unfold zsc at h1
  by_cases hin : zin i L
  case neg => rw [if_neg hin] at h1; cases h1
  rw [if_pos hin] at h1
  cases h1
  intro H locs ls cells slots hR hS ha hL hc hs
  exact va_sld C.1.1 C.1.2.1 C.2.2.2.2.1 C.2.2.2.2.2.1 (by rw [C.2.2.2.2.2.2]; exact Nat.not_le.mpr C.2.2.2.2.2.1) hS hin hd (kk H locs ls cells slots hR hS ha hL hc hs)
theorem z_slen {bs L : Nat} {xv : Nat → Int32} (C : zLC X fr lc bs L xv) (hd : decode cL_law pc = .ok (.arraylength, 1)) (kk : zW X 7 Z kc ks al hi h (pc + 1) lv (.int (Int32.ofNat L) :: st)) : zW X 7 Z kc ks al hi h pc lv (.ref bs :: st) := by
  intro H locs ls cells slots hR hS ha hL hc hs
  exact va_slen C.1.1 C.1.2.1 C.2.2.2.2.1 C.2.2.2.2.2.1 (by rw [C.2.2.2.2.2.2]; exact Nat.not_le.mpr C.2.2.2.2.2.1) hS hd (kk H locs ls cells slots hR hS ha hL hc hs)
theorem z_al (kk : zW X nL Z kc ks false hi h pc lv st) : zW X nL Z kc ks true hi h pc lv st := fun H locs ls cells slots hR hS _ hL hc hs => kk H locs ls cells slots hR hS (fun t => nomatch t) hL hc hs
theorem z_callW {bs L : Nat} {xv : Nat → Int32} {v9 : Int32} {h' : zH} {hh9 : List (Nat × Nat × Nat × Nat)} (C : zLC X fr lc bs L xv) (hM : zMW (xl X) y (.codeWith y cb maxL rty hh9 :: TW) rm (xD X) (xT X) (xlo X) as hi h (some (.int v9), hi, h')) (hG : GoodIn TW (va_wsS RL index y (.codeWith y cb maxL rty hh9 :: TW))) (hyd : y.cls ≠ "java/lang/invoke/MethodHandle" ∧ y.cls ≠ "java/lang/invoke/VarHandle" ∧ (parseMethodDescriptor y.desc).map (fun d => d.parameters.length) = some n) (hd : decode cL_law pc = .ok (.invokestatic index, 3)) (hn : as.length = n) (hroom : rm.frames + 1 ≤ fr ∧ 8 + (maxL + 11) + rm.locals ≤ lc) (hk : rm.cells + kc' = kc ∧ rm.slots + ks' = ks) (hw : (st.map fun v => v.category).sum ≤ 8) (hstk : stk = as.reverse ++ st)
    (kk : zW X 7 Z kc' ks' false hi h' (pc + 3) lv (.int v9 :: st)) : zW X 7 Z kc ks false hi h pc lv stk := by
  intro H locs ls cells slots hR hS ha hL hc hs
  have hf := C.1.f
  have hlc := C.1.c
  refine z_fin (v9 := some (.int v9)) (hi' := hi) C.1 hS (vx_runSW (As := as) (rest := st) ⟨C.1.1, C.1.2.1, C.1.l, C.1.o, C.1.W⟩ hM (vx_cwSW n C.1.W hG rfl rfl rfl hyd ⟨by omega, by omega⟩) ⟨zPW.calls, fun U hU hW => ⟨rfl, ⟨(z_pre (al := false) C.1 hR hS (fun t => nomatch t) as U hU hW).2, C.2.1.warm hU hW hS⟩, fun q hq => (C.2.2.1 q hq).moved hW.alike⟩⟩ rfl hn hL.1 hstk (by show 2 * 0 + _ ≤ 8; omega) hd ⟨by omega, by omega⟩) fun H1 locs1 hR1 hS1 ha1 => ?_
  exact kk H1 locs1 ls _ _ hR1 hS1 ha1 hL (by omega) (by omega)
end ZCatch
end
