theorem mw_68 : (Jvm.Cond.methodLink "CrossedSheet" (3 : Nat) ({ cls := "java/lang/Object", name := "<init>", desc := "()V" } : Jvm.MethodName)) ∈ TW := TWm 68 (by decide +kernel) (by decide +kernel)
theorem mw_71 : (Jvm.Cond.classLink "CrossedSheet" (9 : Nat) "CrossedSheet$Numbers") ∈ TW := TWm 71 (by decide +kernel) (by decide +kernel)
theorem mw_72 : (Jvm.Cond.instantiable "CrossedSheet$Numbers" (1 : Nat)) ∈ TW := TWm 72 (by decide +kernel) (by decide +kernel)
theorem mw_73 : (Jvm.Cond.methodLink "CrossedSheet" (11 : Nat) ({ cls := "CrossedSheet$Numbers", name := "<init>", desc := "(I)V" } : Jvm.MethodName)) ∈ TW := TWm 73 (by decide +kernel) (by decide +kernel)
theorem mw_74 : (Jvm.Cond.instanceMethod ({ cls := "CrossedSheet$Numbers", name := "<init>", desc := "(I)V" } : Jvm.MethodName)) ∈ TW := TWm 74 (by decide +kernel) (by decide +kernel)
theorem mw_75 : (Jvm.Cond.code ({ cls := "CrossedSheet$Numbers", name := "<init>", desc := "(I)V" } : Jvm.MethodName) prog_3_method_1_code (2 : Nat) (Option.none : Option Jvm.ClassFile.FieldType)) ∈ TW := TWm 75 (by decide +kernel) (by decide +kernel)
theorem mw_76 : (Jvm.Cond.methodLink "CrossedSheet$Numbers" (3 : Nat) ({ cls := "java/lang/Object", name := "<init>", desc := "()V" } : Jvm.MethodName)) ∈ TW := TWm 76 (by decide +kernel) (by decide +kernel)
theorem mw_81 : (Jvm.Cond.arrayClass Jvm.ClassFile.FieldType.int) ∈ TW := TWm 81 (by decide +kernel) (by decide +kernel)
theorem mw_82 : (Jvm.Cond.classLink "CrossedSheet" (22 : Nat) "CrossedSheet$TextReader") ∈ TW := TWm 82 (by decide +kernel) (by decide +kernel)
theorem mw_83 : (Jvm.Cond.instantiable "CrossedSheet$TextReader" (7 : Nat)) ∈ TW := TWm 83 (by decide +kernel) (by decide +kernel)
theorem mw_85 : (Jvm.Cond.instanceMethod ({ cls := "CrossedSheet$TextReader", name := "<init>", desc := "()V" } : Jvm.MethodName)) ∈ TW := TWm 85 (by decide +kernel) (by decide +kernel)
theorem mw_86 : (Jvm.Cond.code ({ cls := "CrossedSheet$TextReader", name := "<init>", desc := "()V" } : Jvm.MethodName) prog_7_method_1_code (1 : Nat) (Option.none : Option Jvm.ClassFile.FieldType)) ∈ TW := TWm 86 (by decide +kernel) (by decide +kernel)
theorem mw_110 : (Jvm.Cond.classLink "CrossedSheet" (29 : Nat) "CrossedSheet$Sheet") ∈ TW := TWm 110 (by decide +kernel) (by decide +kernel)
theorem mw_111 : (Jvm.Cond.instantiable "CrossedSheet$Sheet" (12 : Nat)) ∈ TW := TWm 111 (by decide +kernel) (by decide +kernel)
theorem mw_112 : (Jvm.Cond.methodLink "CrossedSheet" (31 : Nat) ({ cls := "CrossedSheet$Sheet", name := "<init>", desc := "()V" } : Jvm.MethodName)) ∈ TW := TWm 112 (by decide +kernel) (by decide +kernel)
theorem mw_113 : (Jvm.Cond.instanceMethod ({ cls := "CrossedSheet$Sheet", name := "<init>", desc := "()V" } : Jvm.MethodName)) ∈ TW := TWm 113 (by decide +kernel) (by decide +kernel)
theorem mw_114 : (Jvm.Cond.code ({ cls := "CrossedSheet$Sheet", name := "<init>", desc := "()V" } : Jvm.MethodName) prog_5_method_1_code (1 : Nat) (Option.none : Option Jvm.ClassFile.FieldType)) ∈ TW := TWm 114 (by decide +kernel) (by decide +kernel)
theorem mw_115 : (Jvm.Cond.methodLink "CrossedSheet$Sheet" (3 : Nat) ({ cls := "java/lang/Object", name := "<init>", desc := "()V" } : Jvm.MethodName)) ∈ TW := TWm 115 (by decide +kernel) (by decide +kernel)
theorem mw_116 : (Jvm.Cond.classLink "CrossedSheet$Sheet" (9 : Nat) "CrossedSheet$Numbers") ∈ TW := TWm 116 (by decide +kernel) (by decide +kernel)
theorem mw_117 : (Jvm.Cond.methodLink "CrossedSheet$Sheet" (11 : Nat) ({ cls := "CrossedSheet$Numbers", name := "<init>", desc := "(I)V" } : Jvm.MethodName)) ∈ TW := TWm 117 (by decide +kernel) (by decide +kernel)
theorem mw_118 : (Jvm.Cond.methodLink "CrossedSheet$Sheet" (41 : Nat) ({ cls := "CrossedSheet$Sheet", name := "makeNew", desc := "()V" } : Jvm.MethodName)) ∈ TW := TWm 118 (by decide +kernel) (by decide +kernel)
theorem mw_194 : (Jvm.Cond.classLink "CrossedSheet" (42 : Nat) "CrossedSheet$History") ∈ TW := TWm 194 (by decide +kernel) (by decide +kernel)
theorem mw_195 : (Jvm.Cond.instantiable "CrossedSheet$History" (3 : Nat)) ∈ TW := TWm 195 (by decide +kernel) (by decide +kernel)
theorem mw_197 : (Jvm.Cond.instanceMethod ({ cls := "CrossedSheet$History", name := "<init>", desc := "()V" } : Jvm.MethodName)) ∈ TW := TWm 197 (by decide +kernel) (by decide +kernel)
theorem mw_198 : (Jvm.Cond.code ({ cls := "CrossedSheet$History", name := "<init>", desc := "()V" } : Jvm.MethodName) prog_2_method_1_code (1 : Nat) (Option.none : Option Jvm.ClassFile.FieldType)) ∈ TW := TWm 198 (by decide +kernel) (by decide +kernel)
theorem mw_199 : (Jvm.Cond.methodLink "CrossedSheet$History" (3 : Nat) ({ cls := "java/lang/Object", name := "<init>", desc := "()V" } : Jvm.MethodName)) ∈ TW := TWm 199 (by decide +kernel) (by decide +kernel)
theorem mw_200 : (Jvm.Cond.classLink "CrossedSheet$History" (9 : Nat) "CrossedSheet$Shelf") ∈ TW := TWm 200 (by decide +kernel) (by decide +kernel)
theorem mw_201 : (Jvm.Cond.instantiable "CrossedSheet$Shelf" (2 : Nat)) ∈ TW := TWm 201 (by decide +kernel) (by decide +kernel)
theorem mw_202 : (Jvm.Cond.methodLink "CrossedSheet$History" (11 : Nat) ({ cls := "CrossedSheet$Shelf", name := "<init>", desc := "(I)V" } : Jvm.MethodName)) ∈ TW := TWm 202 (by decide +kernel) (by decide +kernel)
theorem mw_203 : (Jvm.Cond.instanceMethod ({ cls := "CrossedSheet$Shelf", name := "<init>", desc := "(I)V" } : Jvm.MethodName)) ∈ TW := TWm 203 (by decide +kernel) (by decide +kernel)
theorem mw_204 : (Jvm.Cond.code ({ cls := "CrossedSheet$Shelf", name := "<init>", desc := "(I)V" } : Jvm.MethodName) prog_6_method_1_code (3 : Nat) (Option.none : Option Jvm.ClassFile.FieldType)) ∈ TW := TWm 204 (by decide +kernel) (by decide +kernel)
theorem mw_205 : (Jvm.Cond.methodLink "CrossedSheet$Shelf" (1 : Nat) ({ cls := "java/lang/Object", name := "<init>", desc := "()V" } : Jvm.MethodName)) ∈ TW := TWm 205 (by decide +kernel) (by decide +kernel)
theorem mw_206 : (Jvm.Cond.classLink "CrossedSheet$Shelf" (7 : Nat) "CrossedSheet$Sheet") ∈ TW := TWm 206 (by decide +kernel) (by decide +kernel)
theorem mw_208 : (Jvm.Cond.classLink "CrossedSheet$Shelf" (15 : Nat) "CrossedSheet$Numbers") ∈ TW := TWm 208 (by decide +kernel) (by decide +kernel)
theorem mw_209 : (Jvm.Cond.methodLink "CrossedSheet$Shelf" (17 : Nat) ({ cls := "CrossedSheet$Numbers", name := "<init>", desc := "(I)V" } : Jvm.MethodName)) ∈ TW := TWm 209 (by decide +kernel) (by decide +kernel)
theorem mw_210 : (Jvm.Cond.methodLink "CrossedSheet$Shelf" (24 : Nat) ({ cls := "CrossedSheet$Sheet", name := "<init>", desc := "()V" } : Jvm.MethodName)) ∈ TW := TWm 210 (by decide +kernel) (by decide +kernel)
theorem mw_229 : (Jvm.Cond.classLink "CrossedSheet" (49 : Nat) "CrossedSheet$Shelf") ∈ TW := TWm 229 (by decide +kernel) (by decide +kernel)
theorem mw_230 : (Jvm.Cond.methodLink "CrossedSheet" (51 : Nat) ({ cls := "CrossedSheet$Shelf", name := "<init>", desc := "(I)V" } : Jvm.MethodName)) ∈ TW := TWm 230 (by decide +kernel) (by decide +kernel)
theorem mw_231 : (Jvm.Cond.classLink "CrossedSheet" (56 : Nat) "CrossedSheet$Reading") ∈ TW := TWm 231 (by decide +kernel) (by decide +kernel)
theorem mw_232 : (Jvm.Cond.instantiable "CrossedSheet$Reading" (9 : Nat)) ∈ TW := TWm 232 (by decide +kernel) (by decide +kernel)
theorem mw_234 : (Jvm.Cond.instanceMethod ({ cls := "CrossedSheet$Reading", name := "<init>", desc := "()V" } : Jvm.MethodName)) ∈ TW := TWm 234 (by decide +kernel) (by decide +kernel)
theorem mw_235 : (Jvm.Cond.code ({ cls := "CrossedSheet$Reading", name := "<init>", desc := "()V" } : Jvm.MethodName) prog_4_method_1_code (1 : Nat) (Option.none : Option Jvm.ClassFile.FieldType)) ∈ TW := TWm 235 (by decide +kernel) (by decide +kernel)
theorem mw_236 : (Jvm.Cond.methodLink "CrossedSheet$Reading" (3 : Nat) ({ cls := "java/lang/Object", name := "<init>", desc := "()V" } : Jvm.MethodName)) ∈ TW := TWm 236 (by decide +kernel) (by decide +kernel)
theorem mw_237 : (Jvm.Cond.classLink "CrossedSheet$Reading" (9 : Nat) "CrossedSheet$Numbers") ∈ TW := TWm 237 (by decide +kernel) (by decide +kernel)
theorem mw_238 : (Jvm.Cond.methodLink "CrossedSheet$Reading" (11 : Nat) ({ cls := "CrossedSheet$Numbers", name := "<init>", desc := "(I)V" } : Jvm.MethodName)) ∈ TW := TWm 238 (by decide +kernel) (by decide +kernel)
theorem mw_277 : (Jvm.Cond.fieldLink "CrossedSheet" (52 : Nat) "CrossedSheet" "slots" "LCrossedSheet$Shelf;") ∈ TW := TWm 277 (by decide +kernel) (by decide +kernel)
theorem fl_X6_52 : zF RX6 52 6 7 (.object "CrossedSheet$Shelf") true := ⟨RX6, TX6, 12, tyX6, rfl, inTX6, by decide, mw_277, by decide +kernel, tyX6_ok, nmX6, rfl⟩
theorem ys_X0_init : yX0_init.cls ≠ "java/lang/invoke/MethodHandle" ∧ yX0_init.cls ≠ "java/lang/invoke/VarHandle" ∧ (parseMethodDescriptor yX0_init.desc).map (fun d => d.parameters.length) = some 0 := by decide +kernel
theorem ys_X1_init : yX1_init.cls ≠ "java/lang/invoke/MethodHandle" ∧ yX1_init.cls ≠ "java/lang/invoke/VarHandle" ∧ (parseMethodDescriptor yX1_init.desc).map (fun d => d.parameters.length) = some 1 := by decide +kernel
theorem ys_X2_init : yX2_init.cls ≠ "java/lang/invoke/MethodHandle" ∧ yX2_init.cls ≠ "java/lang/invoke/VarHandle" ∧ (parseMethodDescriptor yX2_init.desc).map (fun d => d.parameters.length) = some 0 := by decide +kernel
theorem ys_X3_init : yX3_init.cls ≠ "java/lang/invoke/MethodHandle" ∧ yX3_init.cls ≠ "java/lang/invoke/VarHandle" ∧ (parseMethodDescriptor yX3_init.desc).map (fun d => d.parameters.length) = some 0 := by decide +kernel
theorem ys_X4_init : yX4_init.cls ≠ "java/lang/invoke/MethodHandle" ∧ yX4_init.cls ≠ "java/lang/invoke/VarHandle" ∧ (parseMethodDescriptor yX4_init.desc).map (fun d => d.parameters.length) = some 1 := by decide +kernel
theorem ys_X5_init : yX5_init.cls ≠ "java/lang/invoke/MethodHandle" ∧ yX5_init.cls ≠ "java/lang/invoke/VarHandle" ∧ (parseMethodDescriptor yX5_init.desc).map (fun d => d.parameters.length) = some 0 := by decide +kernel
theorem ni_X6_9 : zni RX6 9 1 1 [.null] := ⟨RX1, TX1, tyX1, rfl, inTX1, tyX1_ok, mw_71, mw_72, mw_48, fun j hj => by rcases (show j = 0 by omega) with rfl <;> rfl⟩
theorem ni_X6_22 : zni RX6 22 5 7 [.int 0, .int 0, .int 0, .int 0, .int 0, .int 0, .int 0] := ⟨RX5, TX5, tyX5, rfl, inTX5, tyX5_ok, mw_82, mw_83, mw_49, fun j hj => by rcases (show j = 0 ∨ j = 1 ∨ j = 2 ∨ j = 3 ∨ j = 4 ∨ j = 5 ∨ j = 6 by omega) with rfl | rfl | rfl | rfl | rfl | rfl | rfl <;> rfl⟩
theorem ni_X6_29 : zni RX6 29 3 12 [.int 0, .int 0, .int 0, .int 0, .null, .null, .null, .null, .null, .null, .null, .null] := ⟨RX3, TX3, tyX3, rfl, inTX3, tyX3_ok, mw_110, mw_111, mw_50, fun j hj => by rcases (show j = 0 ∨ j = 1 ∨ j = 2 ∨ j = 3 ∨ j = 4 ∨ j = 5 ∨ j = 6 ∨ j = 7 ∨ j = 8 ∨ j = 9 ∨ j = 10 ∨ j = 11 by omega) with rfl | rfl | rfl | rfl | rfl | rfl | rfl | rfl | rfl | rfl | rfl | rfl <;> rfl⟩
theorem ni_X6_42 : zni RX6 42 0 3 [.int 0, .int 0, .null] := ⟨RX0, TX0, tyX0, rfl, inTX0, tyX0_ok, mw_194, mw_195, mw_51, fun j hj => by rcases (show j = 0 ∨ j = 1 ∨ j = 2 by omega) with rfl | rfl | rfl <;> rfl⟩
theorem ni_X6_49 : zni RX6 49 4 2 [.null, .null] := ⟨RX4, TX4, tyX4, rfl, inTX4, tyX4_ok, mw_229, mw_201, mw_52, fun j hj => by rcases (show j = 0 ∨ j = 1 by omega) with rfl | rfl <;> rfl⟩
theorem ni_X6_56 : zni RX6 56 2 9 [.int 0, .int 0, .null, .null, .null, .int 0, .int 0, .int 0, .int 0] := ⟨RX2, TX2, tyX2, rfl, inTX2, tyX2_ok, mw_231, mw_232, mw_53, fun j hj => by rcases (show j = 0 ∨ j = 1 ∨ j = 2 ∨ j = 3 ∨ j = 4 ∨ j = 5 ∨ j = 6 ∨ j = 7 ∨ j = 8 by omega) with rfl | rfl | rfl | rfl | rfl | rfl | rfl | rfl | rfl <;> rfl⟩
theorem ni_X0_9 : zni RX0 9 4 2 [.null, .null] := ⟨RX4, TX4, tyX4, rfl, inTX4, tyX4_ok, mw_200, mw_201, mw_52, fun j hj => by rcases (show j = 0 ∨ j = 1 by omega) with rfl | rfl <;> rfl⟩
theorem ni_X2_9 : zni RX2 9 1 1 [.null] := ⟨RX1, TX1, tyX1, rfl, inTX1, tyX1_ok, mw_237, mw_72, mw_48, fun j hj => by rcases (show j = 0 by omega) with rfl <;> rfl⟩
theorem ni_X3_9 : zni RX3 9 1 1 [.null] := ⟨RX1, TX1, tyX1, rfl, inTX1, tyX1_ok, mw_116, mw_72, mw_48, fun j hj => by rcases (show j = 0 by omega) with rfl <;> rfl⟩
theorem ni_X4_7 : zni RX4 7 3 12 [.int 0, .int 0, .int 0, .int 0, .null, .null, .null, .null, .null, .null, .null, .null] := ⟨RX3, TX3, tyX3, rfl, inTX3, tyX3_ok, mw_206, mw_111, mw_50, fun j hj => by rcases (show j = 0 ∨ j = 1 ∨ j = 2 ∨ j = 3 ∨ j = 4 ∨ j = 5 ∨ j = 6 ∨ j = 7 ∨ j = 8 ∨ j = 9 ∨ j = 10 ∨ j = 11 by omega) with rfl | rfl | rfl | rfl | rfl | rfl | rfl | rfl | rfl | rfl | rfl | rfl <;> rfl⟩
theorem ni_X4_15 : zni RX4 15 1 1 [.null] := ⟨RX1, TX1, tyX1, rfl, inTX1, tyX1_ok, mw_208, mw_72, mw_48, fun j hj => by rcases (show j = 0 by omega) with rfl <;> rfl⟩
theorem cw_X6_11 : GoodIn TW (.code yX1_init cX1_init 2 none :: TW) := zGI mw_75
theorem cw_X6_24 : GoodIn TW (.code yX5_init cX5_init 1 none :: TW) := zGI mw_86
theorem nw_X6_24 : (RX6, 24, yX5_init, "CrossedSheet") ∈ NWl := by decide +kernel
theorem cw_X6_31 : GoodIn TW (.code yX3_init cX3_init 1 none :: TW) := zGI mw_114
theorem cw_X6_44 : GoodIn TW (.code yX0_init cX0_init 1 none :: TW) := zGI mw_198
theorem nw_X6_44 : (RX6, 44, yX0_init, "CrossedSheet") ∈ NWl := by decide +kernel
theorem cw_X6_51 : GoodIn TW (.code yX4_init cX4_init 3 none :: TW) := zGI mw_204
theorem cw_X6_58 : GoodIn TW (.code yX2_init cX2_init 1 none :: TW) := zGI mw_235
theorem nw_X6_58 : (RX6, 58, yX2_init, "CrossedSheet") ∈ NWl := by decide +kernel
theorem cw_X0_11 : GoodIn TW (.code yX4_init cX4_init 3 none :: TW) := zGI mw_204
theorem cw_X2_11 : GoodIn TW (.code yX1_init cX1_init 2 none :: TW) := zGI mw_75
theorem cw_X3_11 : GoodIn TW (.code yX1_init cX1_init 2 none :: TW) := zGI mw_75
theorem cw_X3_41 : GoodIn TW (wsV RX3 41 RX3 yX3_makeNew (.code yX3_makeNew cX3_makeNew 1 none :: TW)) := zGV mw_118 mw_119 mw_120 mw_50 mw_121
theorem cw_X4_17 : GoodIn TW (.code yX1_init cX1_init 2 none :: TW) := zGI mw_75
theorem cw_X4_24 : GoodIn TW (.code yX3_init cX3_init 1 none :: TW) := zGI mw_114
theorem dX1_init_0 : decode cX1_init 0 = .ok (.aload_n 0, 1) := by decide +kernel
theorem dX1_init_1 : decode cX1_init 1 = .ok (.invokespecial 3, 3) := by decide +kernel
theorem dX1_init_4 : decode cX1_init 4 = .ok (.aload_n 0, 1) := by decide +kernel
theorem dX1_init_5 : decode cX1_init 5 = .ok (.iload_n 1, 1) := by decide +kernel
theorem dX1_init_6 : decode cX1_init 6 = .ok (.ifCond .le 7, 3) := by decide +kernel
theorem dX1_init_9 : decode cX1_init 9 = .ok (.iload_n 1, 1) := by decide +kernel
theorem dX1_init_10 : decode cX1_init 10 = .ok (.goto 4, 3) := by decide +kernel
theorem dX1_init_13 : decode cX1_init 13 = .ok (.iconst 0, 1) := by decide +kernel
theorem dX1_init_14 : decode cX1_init 14 = .ok (.newarray .int, 2) := by decide +kernel
theorem dX1_init_16 : decode cX1_init 16 = .ok (.putfield 9, 3) := by decide +kernel
theorem dX1_init_19 : decode cX1_init 19 = .ok (.return_, 1) := by decide +kernel
def FX1_init (T : zT) (a0 : Nat) (p0 : Int32) (hi : Nat) (h : zH) : Option (Nat × zH) := (zo h a0 1).bind fun _ => if p0 ≤ 0 then ((zna T.1 h hi 0).bind fun h1 => (zpv h1 a0 1 0 (.ref hi)).bind fun h2 => some ((hi + 1), h2)) else ((zna T.1 h hi p0).bind fun h3 => (zpv h3 a0 1 0 (.ref hi)).bind fun h4 => some ((hi + 1), h4))
set_option maxHeartbeats 4000000 in
set_option maxRecDepth 100000 in
theorem BX1_init {X : zX} (C : zC X cX1_init 2 RX1 "<init>" none 1 20) {hi : Nat} {h : zH} {a0 : Nat} {p0 : Int32} {r9 : (Nat × zH)} (hf : FX1_init (xT X) a0 p0 hi h = some r9) : zW X 2 (zZ X true (none, r9.1, r9.2)) 1 p0.toNatClampNeg true hi h 0 [(0, .ref a0), (1, .int p0)] [] := by
  unfold FX1_init at hf
  obtain ⟨_, _, hf⟩ := zbind hf
  refine z_aload_n C dX1_init_0 0 rfl rfl ?_
  refine z_objInit C mw_76 mw_obji mw_objc dX1_init_1 ⟨Nat.le_of_ble_eq_true rfl, Nat.le_of_ble_eq_true rfl⟩ ?_
  refine z_aload_n C dX1_init_4 0 rfl rfl ?_
  refine z_iload_n C dX1_init_5 1 rfl rfl ?_
  refine z_if_le (tgt := 13) C dX1_init_6 (by decide) hf (fun hf => ?_) (fun hf => ?_)
  · refine z_iconst C (v := 0) dX1_init_13 (by decide) ?_
    refine z_newarray_int (kc' := 0) (ks' := p0.toNatClampNeg) C mw_81 rfl dX1_init_14 ⟨rfl, Nat.zero_add _⟩ hf (fun h1 hf => ?_)
    refine z_putF C fl_X1_9 rfl (fun _ _ _ e => by cases e; rfl) dX1_init_16 rfl rfl hf (fun h2 hf => ?_)
    exact z_vreturn C dX1_init_19 (by cases hf; rfl)
  · refine z_iload_n C dX1_init_9 1 rfl rfl ?_
    refine z_goto (tgt := 14) C dX1_init_10 (by decide) ?_
    refine z_newarray_int (kc' := 0) (ks' := 0) C mw_81 rfl dX1_init_14 ⟨rfl, rfl⟩ hf (fun h3 hf => ?_)
    refine z_putF C fl_X1_9 rfl (fun _ _ _ e => by cases e; rfl) dX1_init_16 rfl rfl hf (fun h4 hf => ?_)
    exact z_vreturn C dX1_init_19 (by cases hf; rfl)
theorem MX1_init (l : Launch) (D : va_G) (T : zT) (lo : Nat) (hi : Nat) {h : zH} {a0 : Nat} {p0 : Int32} {i9 : Nat} {h9 : zH} (hf : FX1_init T a0 p0 hi h = some (i9, h9)) : zM l yX1_init (.code yX1_init cX1_init 2 none :: TW) ({ frames := 1, cells := 1, slots := p0.toNatClampNeg, locals := 20 } : Room) D T lo true [.ref a0, .int p0] hi h (none, i9, h9) :=
  z_enter (own := RX1) (nm := "<init>") (lv := [(0, .ref a0), (1, .int p0)]) (by decide +kernel) rfl rfl (Nat.le_of_ble_eq_true rfl) rfl (fun _ _ _ _ _ _ _ _ C => BX1_init C hf)
theorem OX1_init {T : zT} {hi : Nat} {h : zH} {a0 : Nat} {p0 : Int32} {r9 : (Nat × zH)} (hf : FX1_init T a0 p0 hi h = some r9) : ∃ fs, h a0 = some (.inr (1, fs)) := by
  obtain ⟨_, h1, _⟩ := zbind hf
  exact zo_obj h1
theorem dX3_init_0 : decode cX3_init 0 = .ok (.aload_n 0, 1) := by decide +kernel
theorem dX3_init_1 : decode cX3_init 1 = .ok (.invokespecial 3, 3) := by decide +kernel
theorem dX3_init_4 : decode cX3_init 4 = .ok (.aload_n 0, 1) := by decide +kernel
theorem dX3_init_5 : decode cX3_init 5 = .ok (.new 9, 3) := by decide +kernel
theorem dX3_init_8 : decode cX3_init 8 = .ok (.dup, 1) := by decide +kernel
theorem dX3_init_9 : decode cX3_init 9 = .ok (.iconst 2, 1) := by decide +kernel
theorem dX3_init_10 : decode cX3_init 10 = .ok (.invokespecial 11, 3) := by decide +kernel
theorem dX3_init_13 : decode cX3_init 13 = .ok (.putfield 14, 3) := by decide +kernel
theorem dX3_init_16 : decode cX3_init 16 = .ok (.aload_n 0, 1) := by decide +kernel
theorem dX3_init_17 : decode cX3_init 17 = .ok (.new 9, 3) := by decide +kernel
theorem dX3_init_20 : decode cX3_init 20 = .ok (.dup, 1) := by decide +kernel
theorem dX3_init_21 : decode cX3_init 21 = .ok (.iconst 2, 1) := by decide +kernel
theorem dX3_init_22 : decode cX3_init 22 = .ok (.invokespecial 11, 3) := by decide +kernel
theorem dX3_init_25 : decode cX3_init 25 = .ok (.putfield 20, 3) := by decide +kernel
theorem dX3_init_28 : decode cX3_init 28 = .ok (.aload_n 0, 1) := by decide +kernel
theorem dX3_init_29 : decode cX3_init 29 = .ok (.new 9, 3) := by decide +kernel
theorem dX3_init_32 : decode cX3_init 32 = .ok (.dup, 1) := by decide +kernel
theorem dX3_init_33 : decode cX3_init 33 = .ok (.iconst 2, 1) := by decide +kernel
theorem dX3_init_34 : decode cX3_init 34 = .ok (.invokespecial 11, 3) := by decide +kernel
theorem dX3_init_37 : decode cX3_init 37 = .ok (.putfield 23, 3) := by decide +kernel
theorem dX3_init_40 : decode cX3_init 40 = .ok (.aload_n 0, 1) := by decide +kernel
theorem dX3_init_41 : decode cX3_init 41 = .ok (.new 9, 3) := by decide +kernel
theorem dX3_init_44 : decode cX3_init 44 = .ok (.dup, 1) := by decide +kernel
theorem dX3_init_45 : decode cX3_init 45 = .ok (.bipush 81, 2) := by decide +kernel
theorem dX3_init_47 : decode cX3_init 47 = .ok (.invokespecial 11, 3) := by decide +kernel
theorem dX3_init_50 : decode cX3_init 50 = .ok (.putfield 26, 3) := by decide +kernel
theorem dX3_init_53 : decode cX3_init 53 = .ok (.aload_n 0, 1) := by decide +kernel
theorem dX3_init_54 : decode cX3_init 54 = .ok (.new 9, 3) := by decide +kernel
theorem dX3_init_57 : decode cX3_init 57 = .ok (.dup, 1) := by decide +kernel
theorem dX3_init_58 : decode cX3_init 58 = .ok (.sipush 162, 3) := by decide +kernel
theorem dX3_init_61 : decode cX3_init 61 = .ok (.invokespecial 11, 3) := by decide +kernel
theorem dX3_init_64 : decode cX3_init 64 = .ok (.putfield 29, 3) := by decide +kernel
theorem dX3_init_67 : decode cX3_init 67 = .ok (.aload_n 0, 1) := by decide +kernel
theorem dX3_init_68 : decode cX3_init 68 = .ok (.new 9, 3) := by decide +kernel
theorem dX3_init_71 : decode cX3_init 71 = .ok (.dup, 1) := by decide +kernel
theorem dX3_init_72 : decode cX3_init 72 = .ok (.sipush 162, 3) := by decide +kernel
theorem dX3_init_75 : decode cX3_init 75 = .ok (.invokespecial 11, 3) := by decide +kernel
theorem dX3_init_78 : decode cX3_init 78 = .ok (.putfield 32, 3) := by decide +kernel
theorem dX3_init_81 : decode cX3_init 81 = .ok (.aload_n 0, 1) := by decide +kernel
theorem dX3_init_82 : decode cX3_init 82 = .ok (.new 9, 3) := by decide +kernel
theorem dX3_init_85 : decode cX3_init 85 = .ok (.dup, 1) := by decide +kernel
theorem dX3_init_86 : decode cX3_init 86 = .ok (.sipush 162, 3) := by decide +kernel
theorem dX3_init_89 : decode cX3_init 89 = .ok (.invokespecial 11, 3) := by decide +kernel
theorem dX3_init_92 : decode cX3_init 92 = .ok (.putfield 35, 3) := by decide +kernel
theorem dX3_init_95 : decode cX3_init 95 = .ok (.aload_n 0, 1) := by decide +kernel
theorem dX3_init_96 : decode cX3_init 96 = .ok (.new 9, 3) := by decide +kernel
theorem dX3_init_99 : decode cX3_init 99 = .ok (.dup, 1) := by decide +kernel
theorem dX3_init_100 : decode cX3_init 100 = .ok (.sipush 162, 3) := by decide +kernel
theorem dX3_init_103 : decode cX3_init 103 = .ok (.invokespecial 11, 3) := by decide +kernel
theorem dX3_init_106 : decode cX3_init 106 = .ok (.putfield 38, 3) := by decide +kernel
theorem dX3_init_109 : decode cX3_init 109 = .ok (.aload_n 0, 1) := by decide +kernel
theorem dX3_init_110 : decode cX3_init 110 = .ok (.invokevirtual 41, 3) := by decide +kernel
theorem dX3_init_113 : decode cX3_init 113 = .ok (.return_, 1) := by decide +kernel
def FX3_init (T : zT) (a0 : Nat) (hi : Nat) (h : zH) : Option (Nat × zH) := (zo h a0 3).bind fun _ => (znw h hi 1 [.null]).bind fun h1 => zb2 (FX1_init T hi 2 (hi + 1) h1) fun i3 h4 => (zpv h4 a0 3 4 (.ref hi)).bind fun h5 => (znw h5 i3 1 [.null]).bind fun h6 => zb2 (FX1_init T i3 2 (i3 + 1) h6) fun i8 h9 => (zpv h9 a0 3 5 (.ref i3)).bind fun h10 => (znw h10 i8 1 [.null]).bind fun h11 => zb2 (FX1_init T i8 2 (i8 + 1) h11) fun i13 h14 => (zpv h14 a0 3 6 (.ref i8)).bind fun h15 => (znw h15 i13 1 [.null]).bind fun h16 => zb2 (FX1_init T i13 81 (i13 + 1) h16) fun i18 h19 => (zpv h19 a0 3 7 (.ref i13)).bind fun h20 => (znw h20 i18 1 [.null]).bind fun h21 => zb2 (FX1_init T i18 162 (i18 + 1) h21) fun i23 h24 => (zpv h24 a0 3 8 (.ref i18)).bind fun h25 => (znw h25 i23 1 [.null]).bind fun h26 => zb2 (FX1_init T i23 162 (i23 + 1) h26) fun i28 h29 => (zpv h29 a0 3 9 (.ref i23)).bind fun h30 => (znw h30 i28 1 [.null]).bind fun h31 => zb2 (FX1_init T i28 162 (i28 + 1) h31) fun i33 h34 => (zpv h34 a0 3 10 (.ref i28)).bind fun h35 => (znw h35 i33 1 [.null]).bind fun h36 => zb2 (FX1_init T i33 162 (i33 + 1) h36) fun i38 h39 => (zpv h39 a0 3 11 (.ref i33)).bind fun h40 => (FX3_makeNew T a0 h40).bind fun h42 => some (i38, h42)
set_option maxHeartbeats 4000000 in
set_option maxRecDepth 100000 in
theorem BX3_init {X : zX} (C : zC X cX3_init 1 RX3 "<init>" none 3 66) {hi : Nat} {h : zH} {a0 : Nat} {r9 : (Nat × zH)} (hf : FX3_init (xT X) a0 hi h = some r9) : zW X 1 (zZ X true (none, r9.1, r9.2)) 16 743 true hi h 0 [(0, .ref a0)] [] := by
  unfold FX3_init at hf
  obtain ⟨_, _, hf⟩ := zbind hf
  refine z_aload_n C dX3_init_0 0 rfl rfl ?_
  refine z_objInit C mw_115 mw_obji mw_objc dX3_init_1 ⟨Nat.le_of_ble_eq_true rfl, Nat.le_of_ble_eq_true rfl⟩ ?_
  refine z_aload_n C dX3_init_4 0 rfl rfl ?_
  refine z_newf (kc' := 15) (ks' := 742) C ni_X3_9 rfl dX3_init_5 ⟨by decide, by decide⟩ hf (fun h1 hf => ?_)
  refine z_dup C dX3_init_8 rfl ?_
  refine z_iconst C (v := 2) dX3_init_9 (by decide) ?_
  obtain ⟨i3, h4, g2, hf⟩ := zbind2 hf
  refine z_callI (kc' := 14) (ks' := 740) C (MX1_init (xl X) (xD X) (xT X) (xlo X) (hi + 1) g2) cw_X3_11 mw_48 mw_117 mw_74 rfl ys_X1_init dX3_init_10 rfl (by decide) ⟨by decide, by decide⟩ (Nat.le_of_ble_eq_true rfl) (st := [.ref hi, .ref a0]) rfl ?_
  refine z_putF C fl_X3_14 rfl (fun _ _ _ e => by cases e; rfl) dX3_init_13 rfl rfl hf (fun h5 hf => ?_)
  refine z_aload_n C dX3_init_16 0 rfl rfl ?_
  refine z_newf (kc' := 13) (ks' := 739) C ni_X3_9 rfl dX3_init_17 ⟨by decide, by decide⟩ hf (fun h6 hf => ?_)
  refine z_dup C dX3_init_20 rfl ?_
  refine z_iconst C (v := 2) dX3_init_21 (by decide) ?_
  obtain ⟨i8, h9, g7, hf⟩ := zbind2 hf
  refine z_callI (kc' := 12) (ks' := 737) C (MX1_init (xl X) (xD X) (xT X) (xlo X) (i3 + 1) g7) cw_X3_11 mw_48 mw_117 mw_74 rfl ys_X1_init dX3_init_22 rfl (by decide) ⟨by decide, by decide⟩ (Nat.le_of_ble_eq_true rfl) (st := [.ref i3, .ref a0]) rfl ?_
  refine z_putF C fl_X3_20 rfl (fun _ _ _ e => by cases e; rfl) dX3_init_25 rfl rfl hf (fun h10 hf => ?_)
  refine z_aload_n C dX3_init_28 0 rfl rfl ?_
  refine z_newf (kc' := 11) (ks' := 736) C ni_X3_9 rfl dX3_init_29 ⟨by decide, by decide⟩ hf (fun h11 hf => ?_)
  refine z_dup C dX3_init_32 rfl ?_
  refine z_iconst C (v := 2) dX3_init_33 (by decide) ?_
  obtain ⟨i13, h14, g12, hf⟩ := zbind2 hf
  refine z_callI (kc' := 10) (ks' := 734) C (MX1_init (xl X) (xD X) (xT X) (xlo X) (i8 + 1) g12) cw_X3_11 mw_48 mw_117 mw_74 rfl ys_X1_init dX3_init_34 rfl (by decide) ⟨by decide, by decide⟩ (Nat.le_of_ble_eq_true rfl) (st := [.ref i8, .ref a0]) rfl ?_
  refine z_putF C fl_X3_23 rfl (fun _ _ _ e => by cases e; rfl) dX3_init_37 rfl rfl hf (fun h15 hf => ?_)
  refine z_aload_n C dX3_init_40 0 rfl rfl ?_
  refine z_newf (kc' := 9) (ks' := 733) C ni_X3_9 rfl dX3_init_41 ⟨by decide, by decide⟩ hf (fun h16 hf => ?_)
  refine z_dup C dX3_init_44 rfl ?_
  refine z_bipush C (v := 81) dX3_init_45 (by decide) ?_
  obtain ⟨i18, h19, g17, hf⟩ := zbind2 hf
  refine z_callI (kc' := 8) (ks' := 652) C (MX1_init (xl X) (xD X) (xT X) (xlo X) (i13 + 1) g17) cw_X3_11 mw_48 mw_117 mw_74 rfl ys_X1_init dX3_init_47 rfl (by decide) ⟨by decide, by decide⟩ (Nat.le_of_ble_eq_true rfl) (st := [.ref i13, .ref a0]) rfl ?_
  refine z_putF C fl_X3_26 rfl (fun _ _ _ e => by cases e; rfl) dX3_init_50 rfl rfl hf (fun h20 hf => ?_)
  refine z_aload_n C dX3_init_53 0 rfl rfl ?_
  refine z_newf (kc' := 7) (ks' := 651) C ni_X3_9 rfl dX3_init_54 ⟨by decide, by decide⟩ hf (fun h21 hf => ?_)
  refine z_dup C dX3_init_57 rfl ?_
  refine z_sipush C (v := 162) dX3_init_58 (by decide) ?_
  obtain ⟨i23, h24, g22, hf⟩ := zbind2 hf
  refine z_callI (kc' := 6) (ks' := 489) C (MX1_init (xl X) (xD X) (xT X) (xlo X) (i18 + 1) g22) cw_X3_11 mw_48 mw_117 mw_74 rfl ys_X1_init dX3_init_61 rfl (by decide) ⟨by decide, by decide⟩ (Nat.le_of_ble_eq_true rfl) (st := [.ref i18, .ref a0]) rfl ?_
  refine z_putF C fl_X3_29 rfl (fun _ _ _ e => by cases e; rfl) dX3_init_64 rfl rfl hf (fun h25 hf => ?_)
  refine z_aload_n C dX3_init_67 0 rfl rfl ?_
  refine z_newf (kc' := 5) (ks' := 488) C ni_X3_9 rfl dX3_init_68 ⟨by decide, by decide⟩ hf (fun h26 hf => ?_)
  refine z_dup C dX3_init_71 rfl ?_
  refine z_sipush C (v := 162) dX3_init_72 (by decide) ?_
  obtain ⟨i28, h29, g27, hf⟩ := zbind2 hf
  refine z_callI (kc' := 4) (ks' := 326) C (MX1_init (xl X) (xD X) (xT X) (xlo X) (i23 + 1) g27) cw_X3_11 mw_48 mw_117 mw_74 rfl ys_X1_init dX3_init_75 rfl (by decide) ⟨by decide, by decide⟩ (Nat.le_of_ble_eq_true rfl) (st := [.ref i23, .ref a0]) rfl ?_
  refine z_putF C fl_X3_32 rfl (fun _ _ _ e => by cases e; rfl) dX3_init_78 rfl rfl hf (fun h30 hf => ?_)
  refine z_aload_n C dX3_init_81 0 rfl rfl ?_
  refine z_newf (kc' := 3) (ks' := 325) C ni_X3_9 rfl dX3_init_82 ⟨by decide, by decide⟩ hf (fun h31 hf => ?_)
  refine z_dup C dX3_init_85 rfl ?_
  refine z_sipush C (v := 162) dX3_init_86 (by decide) ?_
  obtain ⟨i33, h34, g32, hf⟩ := zbind2 hf
  refine z_callI (kc' := 2) (ks' := 163) C (MX1_init (xl X) (xD X) (xT X) (xlo X) (i28 + 1) g32) cw_X3_11 mw_48 mw_117 mw_74 rfl ys_X1_init dX3_init_89 rfl (by decide) ⟨by decide, by decide⟩ (Nat.le_of_ble_eq_true rfl) (st := [.ref i28, .ref a0]) rfl ?_
  refine z_putF C fl_X3_35 rfl (fun _ _ _ e => by cases e; rfl) dX3_init_92 rfl rfl hf (fun h35 hf => ?_)
  refine z_aload_n C dX3_init_95 0 rfl rfl ?_
  refine z_newf (kc' := 1) (ks' := 162) C ni_X3_9 rfl dX3_init_96 ⟨by decide, by decide⟩ hf (fun h36 hf => ?_)
  refine z_dup C dX3_init_99 rfl ?_
  refine z_sipush C (v := 162) dX3_init_100 (by decide) ?_
  obtain ⟨i38, h39, g37, hf⟩ := zbind2 hf
  refine z_callI (kc' := 0) (ks' := 0) C (MX1_init (xl X) (xD X) (xT X) (xlo X) (i33 + 1) g37) cw_X3_11 mw_48 mw_117 mw_74 rfl ys_X1_init dX3_init_103 rfl (by decide) ⟨by decide, by decide⟩ (Nat.le_of_ble_eq_true rfl) (st := [.ref i33, .ref a0]) rfl ?_
  refine z_putF C fl_X3_38 rfl (fun _ _ _ e => by cases e; rfl) dX3_init_106 rfl rfl hf (fun h40 hf => ?_)
  refine z_aload_n C dX3_init_109 0 rfl rfl ?_
  obtain ⟨h42, g41, hf⟩ := zbind hf
  refine z_callV (kc' := 0) (ks' := 0) C (MX3_makeNew (xl X) (xD X) (xT X) (xlo X) true i38 g41) (OX3_makeNew g41) rfl cw_X3_41 yv_X3_makeNew dX3_init_110 rfl (by decide) ⟨rfl, rfl⟩ (Nat.le_of_ble_eq_true rfl) (st := []) rfl ?_
  exact z_vreturn C dX3_init_113 (by cases hf; rfl)
theorem MX3_init (l : Launch) (D : va_G) (T : zT) (lo : Nat) (hi : Nat) {h : zH} {a0 : Nat} {i9 : Nat} {h9 : zH} (hf : FX3_init T a0 hi h = some (i9, h9)) : zM l yX3_init (.code yX3_init cX3_init 1 none :: TW) ({ frames := 3, cells := 16, slots := 743, locals := 66 } : Room) D T lo true [.ref a0] hi h (none, i9, h9) :=
  z_enter (own := RX3) (nm := "<init>") (lv := [(0, .ref a0)]) (by decide +kernel) rfl rfl (Nat.le_of_ble_eq_true rfl) rfl (fun _ _ _ _ _ _ _ _ C => BX3_init C hf)
theorem OX3_init {T : zT} {hi : Nat} {h : zH} {a0 : Nat} {r9 : (Nat × zH)} (hf : FX3_init T a0 hi h = some r9) : ∃ fs, h a0 = some (.inr (3, fs)) := by
  obtain ⟨_, h1, _⟩ := zbind hf
  exact zo_obj h1
theorem dX2_init_0 : decode cX2_init 0 = .ok (.aload_n 0, 1) := by decide +kernel
theorem dX2_init_1 : decode cX2_init 1 = .ok (.invokespecial 3, 3) := by decide +kernel
theorem dX2_init_4 : decode cX2_init 4 = .ok (.aload_n 0, 1) := by decide +kernel
theorem dX2_init_5 : decode cX2_init 5 = .ok (.new 9, 3) := by decide +kernel
theorem dX2_init_8 : decode cX2_init 8 = .ok (.dup, 1) := by decide +kernel
theorem dX2_init_9 : decode cX2_init 9 = .ok (.bipush 81, 2) := by decide +kernel
theorem dX2_init_11 : decode cX2_init 11 = .ok (.invokespecial 11, 3) := by decide +kernel
theorem dX2_init_14 : decode cX2_init 14 = .ok (.putfield 14, 3) := by decide +kernel
theorem dX2_init_17 : decode cX2_init 17 = .ok (.aload_n 0, 1) := by decide +kernel
theorem dX2_init_18 : decode cX2_init 18 = .ok (.new 9, 3) := by decide +kernel
theorem dX2_init_21 : decode cX2_init 21 = .ok (.dup, 1) := by decide +kernel
theorem dX2_init_22 : decode cX2_init 22 = .ok (.bipush 81, 2) := by decide +kernel
theorem dX2_init_24 : decode cX2_init 24 = .ok (.invokespecial 11, 3) := by decide +kernel
theorem dX2_init_27 : decode cX2_init 27 = .ok (.putfield 20, 3) := by decide +kernel
theorem dX2_init_30 : decode cX2_init 30 = .ok (.aload_n 0, 1) := by decide +kernel
theorem dX2_init_31 : decode cX2_init 31 = .ok (.new 9, 3) := by decide +kernel
theorem dX2_init_34 : decode cX2_init 34 = .ok (.dup, 1) := by decide +kernel
theorem dX2_init_35 : decode cX2_init 35 = .ok (.bipush 81, 2) := by decide +kernel
theorem dX2_init_37 : decode cX2_init 37 = .ok (.invokespecial 11, 3) := by decide +kernel
theorem dX2_init_40 : decode cX2_init 40 = .ok (.putfield 23, 3) := by decide +kernel
theorem dX2_init_43 : decode cX2_init 43 = .ok (.return_, 1) := by decide +kernel
def FX2_init (T : zT) (a0 : Nat) (hi : Nat) (h : zH) : Option (Nat × zH) := (zo h a0 2).bind fun _ => (znw h hi 1 [.null]).bind fun h1 => zb2 (FX1_init T hi 81 (hi + 1) h1) fun i3 h4 => (zpv h4 a0 2 2 (.ref hi)).bind fun h5 => (znw h5 i3 1 [.null]).bind fun h6 => zb2 (FX1_init T i3 81 (i3 + 1) h6) fun i8 h9 => (zpv h9 a0 2 3 (.ref i3)).bind fun h10 => (znw h10 i8 1 [.null]).bind fun h11 => zb2 (FX1_init T i8 81 (i8 + 1) h11) fun i13 h14 => (zpv h14 a0 2 4 (.ref i8)).bind fun h15 => some (i13, h15)
set_option maxHeartbeats 4000000 in
set_option maxRecDepth 100000 in
theorem BX2_init {X : zX} (C : zC X cX2_init 1 RX2 "<init>" none 2 41) {hi : Nat} {h : zH} {a0 : Nat} {r9 : (Nat × zH)} (hf : FX2_init (xT X) a0 hi h = some r9) : zW X 1 (zZ X true (none, r9.1, r9.2)) 6 246 true hi h 0 [(0, .ref a0)] [] := by
  unfold FX2_init at hf
  obtain ⟨_, _, hf⟩ := zbind hf
  refine z_aload_n C dX2_init_0 0 rfl rfl ?_
  refine z_objInit C mw_236 mw_obji mw_objc dX2_init_1 ⟨Nat.le_of_ble_eq_true rfl, Nat.le_of_ble_eq_true rfl⟩ ?_
  refine z_aload_n C dX2_init_4 0 rfl rfl ?_
  refine z_newf (kc' := 5) (ks' := 245) C ni_X2_9 rfl dX2_init_5 ⟨by decide, by decide⟩ hf (fun h1 hf => ?_)
  refine z_dup C dX2_init_8 rfl ?_
  refine z_bipush C (v := 81) dX2_init_9 (by decide) ?_
  obtain ⟨i3, h4, g2, hf⟩ := zbind2 hf
  refine z_callI (kc' := 4) (ks' := 164) C (MX1_init (xl X) (xD X) (xT X) (xlo X) (hi + 1) g2) cw_X2_11 mw_48 mw_238 mw_74 rfl ys_X1_init dX2_init_11 rfl (by decide) ⟨by decide, by decide⟩ (Nat.le_of_ble_eq_true rfl) (st := [.ref hi, .ref a0]) rfl ?_
  refine z_putF C fl_X2_14 rfl (fun _ _ _ e => by cases e; rfl) dX2_init_14 rfl rfl hf (fun h5 hf => ?_)
  refine z_aload_n C dX2_init_17 0 rfl rfl ?_
  refine z_newf (kc' := 3) (ks' := 163) C ni_X2_9 rfl dX2_init_18 ⟨by decide, by decide⟩ hf (fun h6 hf => ?_)
  refine z_dup C dX2_init_21 rfl ?_
  refine z_bipush C (v := 81) dX2_init_22 (by decide) ?_
  obtain ⟨i8, h9, g7, hf⟩ := zbind2 hf
  refine z_callI (kc' := 2) (ks' := 82) C (MX1_init (xl X) (xD X) (xT X) (xlo X) (i3 + 1) g7) cw_X2_11 mw_48 mw_238 mw_74 rfl ys_X1_init dX2_init_24 rfl (by decide) ⟨by decide, by decide⟩ (Nat.le_of_ble_eq_true rfl) (st := [.ref i3, .ref a0]) rfl ?_
  refine z_putF C fl_X2_20 rfl (fun _ _ _ e => by cases e; rfl) dX2_init_27 rfl rfl hf (fun h10 hf => ?_)
  refine z_aload_n C dX2_init_30 0 rfl rfl ?_
  refine z_newf (kc' := 1) (ks' := 81) C ni_X2_9 rfl dX2_init_31 ⟨by decide, by decide⟩ hf (fun h11 hf => ?_)
  refine z_dup C dX2_init_34 rfl ?_
  refine z_bipush C (v := 81) dX2_init_35 (by decide) ?_
  obtain ⟨i13, h14, g12, hf⟩ := zbind2 hf
  refine z_callI (kc' := 0) (ks' := 0) C (MX1_init (xl X) (xD X) (xT X) (xlo X) (i8 + 1) g12) cw_X2_11 mw_48 mw_238 mw_74 rfl ys_X1_init dX2_init_37 rfl (by decide) ⟨by decide, by decide⟩ (Nat.le_of_ble_eq_true rfl) (st := [.ref i8, .ref a0]) rfl ?_
  refine z_putF C fl_X2_23 rfl (fun _ _ _ e => by cases e; rfl) dX2_init_40 rfl rfl hf (fun h15 hf => ?_)
  exact z_vreturn C dX2_init_43 (by cases hf; rfl)
theorem MX2_init (l : Launch) (D : va_G) (T : zT) (lo : Nat) (hi : Nat) {h : zH} {a0 : Nat} {i9 : Nat} {h9 : zH} (hf : FX2_init T a0 hi h = some (i9, h9)) : zM l yX2_init (.code yX2_init cX2_init 1 none :: TW) ({ frames := 2, cells := 6, slots := 246, locals := 41 } : Room) D T lo true [.ref a0] hi h (none, i9, h9) :=
  z_enter (own := RX2) (nm := "<init>") (lv := [(0, .ref a0)]) (by decide +kernel) rfl rfl (Nat.le_of_ble_eq_true rfl) rfl (fun _ _ _ _ _ _ _ _ C => BX2_init C hf)
theorem OX2_init {T : zT} {hi : Nat} {h : zH} {a0 : Nat} {r9 : (Nat × zH)} (hf : FX2_init T a0 hi h = some r9) : ∃ fs, h a0 = some (.inr (2, fs)) := by
  obtain ⟨_, h1, _⟩ := zbind hf
  exact zo_obj h1
theorem dX4_init_0 : decode cX4_init 0 = .ok (.aload_n 0, 1) := by decide +kernel
theorem dX4_init_1 : decode cX4_init 1 = .ok (.invokespecial 1, 3) := by decide +kernel
theorem dX4_init_4 : decode cX4_init 4 = .ok (.aload_n 0, 1) := by decide +kernel
theorem dX4_init_5 : decode cX4_init 5 = .ok (.iload_n 1, 1) := by decide +kernel
theorem dX4_init_6 : decode cX4_init 6 = .ok (.ifCond .le 7, 3) := by decide +kernel
theorem dX4_init_9 : decode cX4_init 9 = .ok (.iload_n 1, 1) := by decide +kernel
theorem dX4_init_10 : decode cX4_init 10 = .ok (.goto 4, 3) := by decide +kernel
theorem dX4_init_13 : decode cX4_init 13 = .ok (.iconst 0, 1) := by decide +kernel
theorem dX4_init_14 : decode cX4_init 14 = .ok (.anewarray 7, 3) := by decide +kernel
theorem dX4_init_17 : decode cX4_init 17 = .ok (.putfield 9, 3) := by decide +kernel
theorem dX4_init_20 : decode cX4_init 20 = .ok (.aload_n 0, 1) := by decide +kernel
theorem dX4_init_21 : decode cX4_init 21 = .ok (.new 15, 3) := by decide +kernel
theorem dX4_init_24 : decode cX4_init 24 = .ok (.dup, 1) := by decide +kernel
theorem dX4_init_25 : decode cX4_init 25 = .ok (.iload_n 1, 1) := by decide +kernel
theorem dX4_init_26 : decode cX4_init 26 = .ok (.invokespecial 17, 3) := by decide +kernel
theorem dX4_init_29 : decode cX4_init 29 = .ok (.putfield 20, 3) := by decide +kernel
theorem dX4_init_32 : decode cX4_init 32 = .ok (.iconst 0, 1) := by decide +kernel
theorem dX4_init_33 : decode cX4_init 33 = .ok (.istore_n 2, 1) := by decide +kernel
theorem dX4_init_34 : decode cX4_init 34 = .ok (.iload_n 2, 1) := by decide +kernel
theorem dX4_init_35 : decode cX4_init 35 = .ok (.aload_n 0, 1) := by decide +kernel
theorem dX4_init_36 : decode cX4_init 36 = .ok (.getfield 9, 3) := by decide +kernel
theorem dX4_init_39 : decode cX4_init 39 = .ok (.arraylength, 1) := by decide +kernel
theorem dX4_init_40 : decode cX4_init 40 = .ok (.if_icmp .ge 22, 3) := by decide +kernel
theorem dX4_init_43 : decode cX4_init 43 = .ok (.aload_n 0, 1) := by decide +kernel
theorem dX4_init_44 : decode cX4_init 44 = .ok (.getfield 9, 3) := by decide +kernel
theorem dX4_init_47 : decode cX4_init 47 = .ok (.iload_n 2, 1) := by decide +kernel
theorem dX4_init_48 : decode cX4_init 48 = .ok (.new 7, 3) := by decide +kernel
theorem dX4_init_51 : decode cX4_init 51 = .ok (.dup, 1) := by decide +kernel
theorem dX4_init_52 : decode cX4_init 52 = .ok (.invokespecial 24, 3) := by decide +kernel
theorem dX4_init_55 : decode cX4_init 55 = .ok (.aastore, 1) := by decide +kernel
theorem dX4_init_56 : decode cX4_init 56 = .ok (.iinc 2 1, 3) := by decide +kernel
theorem dX4_init_59 : decode cX4_init 59 = .ok (.goto (-25), 3) := by decide +kernel
theorem dX4_init_62 : decode cX4_init 62 = .ok (.return_, 1) := by decide +kernel
def FX4_init14 (T : zT) (a0 : Nat) (hi : Nat) (h : zH) : Option (Nat × zH) := (zo h a0 4).bind fun _ => if (14 : Int32) ≤ 0 then ((znq T.2.2.2 h hi 0).bind fun h1 => (zpv h1 a0 4 0 (.ref hi)).bind fun h2 => (znw h2 (hi + 1) 1 [.null]).bind fun h3 => zb2 (FX1_init T (hi + 1) 14 (hi + 2) h3) fun i5 h6 => (zpv h6 a0 4 1 (.ref (hi + 1))).bind fun h7 => (zgr h7 a0 4 0).bind fun x8 => (zln T h7 x8).bind fun x9 => if x9 ≤ (0 : Int32) then (some (i5, h7)) else ((zgr h7 a0 4 0).bind fun x10 => (znw h7 i5 3 [.int 0, .int 0, .int 0, .int 0, .null, .null, .null, .null, .null, .null, .null, .null]).bind fun h11 => zb2 (FX3_init T i5 (i5 + 1) h11) fun i13 h14 => (zqs T h14 x10 0 i5).bind fun h15 => (zgr h15 a0 4 0).bind fun x16 => (zln T h15 x16).bind fun x17 => if x17 ≤ (0 + 1) then (some (i13, h15)) else ((zgr h15 a0 4 0).bind fun x18 => (znw h15 i13 3 [.int 0, .int 0, .int 0, .int 0, .null, .null, .null, .null, .null, .null, .null, .null]).bind fun h19 => zb2 (FX3_init T i13 (i13 + 1) h19) fun i21 h22 => (zqs T h22 x18 (0 + 1) i13).bind fun h23 => (zgr h23 a0 4 0).bind fun x24 => (zln T h23 x24).bind fun x25 => if x25 ≤ ((0 + 1) + 1) then (some (i21, h23)) else ((zgr h23 a0 4 0).bind fun x26 => (znw h23 i21 3 [.int 0, .int 0, .int 0, .int 0, .null, .null, .null, .null, .null, .null, .null, .null]).bind fun h27 => zb2 (FX3_init T i21 (i21 + 1) h27) fun i29 h30 => (zqs T h30 x26 ((0 + 1) + 1) i21).bind fun h31 => (zgr h31 a0 4 0).bind fun x32 => (zln T h31 x32).bind fun x33 => if x33 ≤ (((0 + 1) + 1) + 1) then (some (i29, h31)) else ((zgr h31 a0 4 0).bind fun x34 => (znw h31 i29 3 [.int 0, .int 0, .int 0, .int 0, .null, .null, .null, .null, .null, .null, .null, .null]).bind fun h35 => zb2 (FX3_init T i29 (i29 + 1) h35) fun i37 h38 => (zqs T h38 x34 (((0 + 1) + 1) + 1) i29).bind fun h39 => (zgr h39 a0 4 0).bind fun x40 => (zln T h39 x40).bind fun x41 => if x41 ≤ ((((0 + 1) + 1) + 1) + 1) then (some (i37, h39)) else ((zgr h39 a0 4 0).bind fun x42 => (znw h39 i37 3 [.int 0, .int 0, .int 0, .int 0, .null, .null, .null, .null, .null, .null, .null, .null]).bind fun h43 => zb2 (FX3_init T i37 (i37 + 1) h43) fun i45 h46 => (zqs T h46 x42 ((((0 + 1) + 1) + 1) + 1) i37).bind fun h47 => (zgr h47 a0 4 0).bind fun x48 => (zln T h47 x48).bind fun x49 => if x49 ≤ (((((0 + 1) + 1) + 1) + 1) + 1) then (some (i45, h47)) else ((zgr h47 a0 4 0).bind fun x50 => (znw h47 i45 3 [.int 0, .int 0, .int 0, .int 0, .null, .null, .null, .null, .null, .null, .null, .null]).bind fun h51 => zb2 (FX3_init T i45 (i45 + 1) h51) fun i53 h54 => (zqs T h54 x50 (((((0 + 1) + 1) + 1) + 1) + 1) i45).bind fun h55 => (zgr h55 a0 4 0).bind fun x56 => (zln T h55 x56).bind fun x57 => if x57 ≤ ((((((0 + 1) + 1) + 1) + 1) + 1) + 1) then (some (i53, h55)) else ((zgr h55 a0 4 0).bind fun x58 => (znw h55 i53 3 [.int 0, .int 0, .int 0, .int 0, .null, .null, .null, .null, .null, .null, .null, .null]).bind fun h59 => zb2 (FX3_init T i53 (i53 + 1) h59) fun i61 h62 => (zqs T h62 x58 ((((((0 + 1) + 1) + 1) + 1) + 1) + 1) i53).bind fun h63 => (zgr h63 a0 4 0).bind fun x64 => (zln T h63 x64).bind fun x65 => if x65 ≤ (((((((0 + 1) + 1) + 1) + 1) + 1) + 1) + 1) then (some (i61, h63)) else ((zgr h63 a0 4 0).bind fun x66 => (znw h63 i61 3 [.int 0, .int 0, .int 0, .int 0, .null, .null, .null, .null, .null, .null, .null, .null]).bind fun h67 => zb2 (FX3_init T i61 (i61 + 1) h67) fun i69 h70 => (zqs T h70 x66 (((((((0 + 1) + 1) + 1) + 1) + 1) + 1) + 1) i61).bind fun h71 => (zgr h71 a0 4 0).bind fun x72 => (zln T h71 x72).bind fun x73 => if x73 ≤ ((((((((0 + 1) + 1) + 1) + 1) + 1) + 1) + 1) + 1) then (some (i69, h71)) else ((zgr h71 a0 4 0).bind fun x74 => (znw h71 i69 3 [.int 0, .int 0, .int 0, .int 0, .null, .null, .null, .null, .null, .null, .null, .null]).bind fun h75 => zb2 (FX3_init T i69 (i69 + 1) h75) fun i77 h78 => (zqs T h78 x74 ((((((((0 + 1) + 1) + 1) + 1) + 1) + 1) + 1) + 1) i69).bind fun h79 => (zgr h79 a0 4 0).bind fun x80 => (zln T h79 x80).bind fun x81 => if x81 ≤ (((((((((0 + 1) + 1) + 1) + 1) + 1) + 1) + 1) + 1) + 1) then (some (i77, h79)) else ((zgr h79 a0 4 0).bind fun x82 => (znw h79 i77 3 [.int 0, .int 0, .int 0, .int 0, .null, .null, .null, .null, .null, .null, .null, .null]).bind fun h83 => zb2 (FX3_init T i77 (i77 + 1) h83) fun i85 h86 => (zqs T h86 x82 (((((((((0 + 1) + 1) + 1) + 1) + 1) + 1) + 1) + 1) + 1) i77).bind fun h87 => (zgr h87 a0 4 0).bind fun x88 => (zln T h87 x88).bind fun x89 => if x89 ≤ ((((((((((0 + 1) + 1) + 1) + 1) + 1) + 1) + 1) + 1) + 1) + 1) then (some (i85, h87)) else ((zgr h87 a0 4 0).bind fun x90 => (znw h87 i85 3 [.int 0, .int 0, .int 0, .int 0, .null, .null, .null, .null, .null, .null, .null, .null]).bind fun h91 => zb2 (FX3_init T i85 (i85 + 1) h91) fun i93 h94 => (zqs T h94 x90 ((((((((((0 + 1) + 1) + 1) + 1) + 1) + 1) + 1) + 1) + 1) + 1) i85).bind fun h95 => (zgr h95 a0 4 0).bind fun x96 => (zln T h95 x96).bind fun x97 => if x97 ≤ (((((((((((0 + 1) + 1) + 1) + 1) + 1) + 1) + 1) + 1) + 1) + 1) + 1) then (some (i93, h95)) else ((zgr h95 a0 4 0).bind fun x98 => (znw h95 i93 3 [.int 0, .int 0, .int 0, .int 0, .null, .null, .null, .null, .null, .null, .null, .null]).bind fun h99 => zb2 (FX3_init T i93 (i93 + 1) h99) fun i101 h102 => (zqs T h102 x98 (((((((((((0 + 1) + 1) + 1) + 1) + 1) + 1) + 1) + 1) + 1) + 1) + 1) i93).bind fun h103 => (zgr h103 a0 4 0).bind fun x104 => (zln T h103 x104).bind fun x105 => if x105 ≤ ((((((((((((0 + 1) + 1) + 1) + 1) + 1) + 1) + 1) + 1) + 1) + 1) + 1) + 1) then (some (i101, h103)) else ((zgr h103 a0 4 0).bind fun x106 => (znw h103 i101 3 [.int 0, .int 0, .int 0, .int 0, .null, .null, .null, .null, .null, .null, .null, .null]).bind fun h107 => zb2 (FX3_init T i101 (i101 + 1) h107) fun i109 h110 => (zqs T h110 x106 ((((((((((((0 + 1) + 1) + 1) + 1) + 1) + 1) + 1) + 1) + 1) + 1) + 1) + 1) i101).bind fun h111 => (zgr h111 a0 4 0).bind fun x112 => (zln T h111 x112).bind fun x113 => if x113 ≤ (((((((((((((0 + 1) + 1) + 1) + 1) + 1) + 1) + 1) + 1) + 1) + 1) + 1) + 1) + 1) then (some (i109, h111)) else ((zgr h111 a0 4 0).bind fun x114 => (znw h111 i109 3 [.int 0, .int 0, .int 0, .int 0, .null, .null, .null, .null, .null, .null, .null, .null]).bind fun h115 => zb2 (FX3_init T i109 (i109 + 1) h115) fun i117 h118 => (zqs T h118 x114 (((((((((((((0 + 1) + 1) + 1) + 1) + 1) + 1) + 1) + 1) + 1) + 1) + 1) + 1) + 1) i109).bind fun h119 => (zgr h119 a0 4 0).bind fun x120 => (zln T h119 x120).bind fun x121 => if x121 ≤ ((((((((((((((0 + 1) + 1) + 1) + 1) + 1) + 1) + 1) + 1) + 1) + 1) + 1) + 1) + 1) + 1) then (some (i117, h119)) else (none)))))))))))))))) else ((znq T.2.2.2 h hi 14).bind fun h122 => (zpv h122 a0 4 0 (.ref hi)).bind fun h123 => (znw h123 (hi + 1) 1 [.null]).bind fun h124 => zb2 (FX1_init T (hi + 1) 14 (hi + 2) h124) fun i126 h127 => (zpv h127 a0 4 1 (.ref (hi + 1))).bind fun h128 => (zgr h128 a0 4 0).bind fun x129 => (zln T h128 x129).bind fun x130 => if x130 ≤ (0 : Int32) then (some (i126, h128)) else ((zgr h128 a0 4 0).bind fun x131 => (znw h128 i126 3 [.int 0, .int 0, .int 0, .int 0, .null, .null, .null, .null, .null, .null, .null, .null]).bind fun h132 => zb2 (FX3_init T i126 (i126 + 1) h132) fun i134 h135 => (zqs T h135 x131 0 i126).bind fun h136 => (zgr h136 a0 4 0).bind fun x137 => (zln T h136 x137).bind fun x138 => if x138 ≤ (0 + 1) then (some (i134, h136)) else ((zgr h136 a0 4 0).bind fun x139 => (znw h136 i134 3 [.int 0, .int 0, .int 0, .int 0, .null, .null, .null, .null, .null, .null, .null, .null]).bind fun h140 => zb2 (FX3_init T i134 (i134 + 1) h140) fun i142 h143 => (zqs T h143 x139 (0 + 1) i134).bind fun h144 => (zgr h144 a0 4 0).bind fun x145 => (zln T h144 x145).bind fun x146 => if x146 ≤ ((0 + 1) + 1) then (some (i142, h144)) else ((zgr h144 a0 4 0).bind fun x147 => (znw h144 i142 3 [.int 0, .int 0, .int 0, .int 0, .null, .null, .null, .null, .null, .null, .null, .null]).bind fun h148 => zb2 (FX3_init T i142 (i142 + 1) h148) fun i150 h151 => (zqs T h151 x147 ((0 + 1) + 1) i142).bind fun h152 => (zgr h152 a0 4 0).bind fun x153 => (zln T h152 x153).bind fun x154 => if x154 ≤ (((0 + 1) + 1) + 1) then (some (i150, h152)) else ((zgr h152 a0 4 0).bind fun x155 => (znw h152 i150 3 [.int 0, .int 0, .int 0, .int 0, .null, .null, .null, .null, .null, .null, .null, .null]).bind fun h156 => zb2 (FX3_init T i150 (i150 + 1) h156) fun i158 h159 => (zqs T h159 x155 (((0 + 1) + 1) + 1) i150).bind fun h160 => (zgr h160 a0 4 0).bind fun x161 => (zln T h160 x161).bind fun x162 => if x162 ≤ ((((0 + 1) + 1) + 1) + 1) then (some (i158, h160)) else ((zgr h160 a0 4 0).bind fun x163 => (znw h160 i158 3 [.int 0, .int 0, .int 0, .int 0, .null, .null, .null, .null, .null, .null, .null, .null]).bind fun h164 => zb2 (FX3_init T i158 (i158 + 1) h164) fun i166 h167 => (zqs T h167 x163 ((((0 + 1) + 1) + 1) + 1) i158).bind fun h168 => (zgr h168 a0 4 0).bind fun x169 => (zln T h168 x169).bind fun x170 => if x170 ≤ (((((0 + 1) + 1) + 1) + 1) + 1) then (some (i166, h168)) else ((zgr h168 a0 4 0).bind fun x171 => (znw h168 i166 3 [.int 0, .int 0, .int 0, .int 0, .null, .null, .null, .null, .null, .null, .null, .null]).bind fun h172 => zb2 (FX3_init T i166 (i166 + 1) h172) fun i174 h175 => (zqs T h175 x171 (((((0 + 1) + 1) + 1) + 1) + 1) i166).bind fun h176 => (zgr h176 a0 4 0).bind fun x177 => (zln T h176 x177).bind fun x178 => if x178 ≤ ((((((0 + 1) + 1) + 1) + 1) + 1) + 1) then (some (i174, h176)) else ((zgr h176 a0 4 0).bind fun x179 => (znw h176 i174 3 [.int 0, .int 0, .int 0, .int 0, .null, .null, .null, .null, .null, .null, .null, .null]).bind fun h180 => zb2 (FX3_init T i174 (i174 + 1) h180) fun i182 h183 => (zqs T h183 x179 ((((((0 + 1) + 1) + 1) + 1) + 1) + 1) i174).bind fun h184 => (zgr h184 a0 4 0).bind fun x185 => (zln T h184 x185).bind fun x186 => if x186 ≤ (((((((0 + 1) + 1) + 1) + 1) + 1) + 1) + 1) then (some (i182, h184)) else ((zgr h184 a0 4 0).bind fun x187 => (znw h184 i182 3 [.int 0, .int 0, .int 0, .int 0, .null, .null, .null, .null, .null, .null, .null, .null]).bind fun h188 => zb2 (FX3_init T i182 (i182 + 1) h188) fun i190 h191 => (zqs T h191 x187 (((((((0 + 1) + 1) + 1) + 1) + 1) + 1) + 1) i182).bind fun h192 => (zgr h192 a0 4 0).bind fun x193 => (zln T h192 x193).bind fun x194 => if x194 ≤ ((((((((0 + 1) + 1) + 1) + 1) + 1) + 1) + 1) + 1) then (some (i190, h192)) else ((zgr h192 a0 4 0).bind fun x195 => (znw h192 i190 3 [.int 0, .int 0, .int 0, .int 0, .null, .null, .null, .null, .null, .null, .null, .null]).bind fun h196 => zb2 (FX3_init T i190 (i190 + 1) h196) fun i198 h199 => (zqs T h199 x195 ((((((((0 + 1) + 1) + 1) + 1) + 1) + 1) + 1) + 1) i190).bind fun h200 => (zgr h200 a0 4 0).bind fun x201 => (zln T h200 x201).bind fun x202 => if x202 ≤ (((((((((0 + 1) + 1) + 1) + 1) + 1) + 1) + 1) + 1) + 1) then (some (i198, h200)) else ((zgr h200 a0 4 0).bind fun x203 => (znw h200 i198 3 [.int 0, .int 0, .int 0, .int 0, .null, .null, .null, .null, .null, .null, .null, .null]).bind fun h204 => zb2 (FX3_init T i198 (i198 + 1) h204) fun i206 h207 => (zqs T h207 x203 (((((((((0 + 1) + 1) + 1) + 1) + 1) + 1) + 1) + 1) + 1) i198).bind fun h208 => (zgr h208 a0 4 0).bind fun x209 => (zln T h208 x209).bind fun x210 => if x210 ≤ ((((((((((0 + 1) + 1) + 1) + 1) + 1) + 1) + 1) + 1) + 1) + 1) then (some (i206, h208)) else ((zgr h208 a0 4 0).bind fun x211 => (znw h208 i206 3 [.int 0, .int 0, .int 0, .int 0, .null, .null, .null, .null, .null, .null, .null, .null]).bind fun h212 => zb2 (FX3_init T i206 (i206 + 1) h212) fun i214 h215 => (zqs T h215 x211 ((((((((((0 + 1) + 1) + 1) + 1) + 1) + 1) + 1) + 1) + 1) + 1) i206).bind fun h216 => (zgr h216 a0 4 0).bind fun x217 => (zln T h216 x217).bind fun x218 => if x218 ≤ (((((((((((0 + 1) + 1) + 1) + 1) + 1) + 1) + 1) + 1) + 1) + 1) + 1) then (some (i214, h216)) else ((zgr h216 a0 4 0).bind fun x219 => (znw h216 i214 3 [.int 0, .int 0, .int 0, .int 0, .null, .null, .null, .null, .null, .null, .null, .null]).bind fun h220 => zb2 (FX3_init T i214 (i214 + 1) h220) fun i222 h223 => (zqs T h223 x219 (((((((((((0 + 1) + 1) + 1) + 1) + 1) + 1) + 1) + 1) + 1) + 1) + 1) i214).bind fun h224 => (zgr h224 a0 4 0).bind fun x225 => (zln T h224 x225).bind fun x226 => if x226 ≤ ((((((((((((0 + 1) + 1) + 1) + 1) + 1) + 1) + 1) + 1) + 1) + 1) + 1) + 1) then (some (i222, h224)) else ((zgr h224 a0 4 0).bind fun x227 => (znw h224 i222 3 [.int 0, .int 0, .int 0, .int 0, .null, .null, .null, .null, .null, .null, .null, .null]).bind fun h228 => zb2 (FX3_init T i222 (i222 + 1) h228) fun i230 h231 => (zqs T h231 x227 ((((((((((((0 + 1) + 1) + 1) + 1) + 1) + 1) + 1) + 1) + 1) + 1) + 1) + 1) i222).bind fun h232 => (zgr h232 a0 4 0).bind fun x233 => (zln T h232 x233).bind fun x234 => if x234 ≤ (((((((((((((0 + 1) + 1) + 1) + 1) + 1) + 1) + 1) + 1) + 1) + 1) + 1) + 1) + 1) then (some (i230, h232)) else ((zgr h232 a0 4 0).bind fun x235 => (znw h232 i230 3 [.int 0, .int 0, .int 0, .int 0, .null, .null, .null, .null, .null, .null, .null, .null]).bind fun h236 => zb2 (FX3_init T i230 (i230 + 1) h236) fun i238 h239 => (zqs T h239 x235 (((((((((((((0 + 1) + 1) + 1) + 1) + 1) + 1) + 1) + 1) + 1) + 1) + 1) + 1) + 1) i230).bind fun h240 => (zgr h240 a0 4 0).bind fun x241 => (zln T h240 x241).bind fun x242 => if x242 ≤ ((((((((((((((0 + 1) + 1) + 1) + 1) + 1) + 1) + 1) + 1) + 1) + 1) + 1) + 1) + 1) + 1) then (some (i238, h240)) else (none))))))))))))))))
set_option maxHeartbeats 4000000 in
set_option maxRecDepth 100000 in
theorem BX4_init14 {X : zX} (C : zC X cX4_init 3 RX4 "<init>" none 4 86) {hi : Nat} {h : zH} {a0 : Nat} {r9 : (Nat × zH)} (hf : FX4_init14 (xT X) a0 hi h = some r9) : zW X 3 (zZ X true (none, r9.1, r9.2)) 241 10599 true hi h 0 [(0, .ref a0), (1, .int 14)] [] := by
  unfold FX4_init14 at hf
  obtain ⟨_, _, hf⟩ := zbind hf
  refine z_aload_n C dX4_init_0 0 rfl rfl ?_
  refine z_objInit C mw_205 mw_obji mw_objc dX4_init_1 ⟨Nat.le_of_ble_eq_true rfl, Nat.le_of_ble_eq_true rfl⟩ ?_
  refine z_aload_n C dX4_init_4 0 rfl rfl ?_
  refine z_iload_n C dX4_init_5 1 rfl rfl ?_
  refine z_if_le (tgt := 13) C dX4_init_6 (by decide) hf (fun hf => ?_) (fun hf => ?_)
  · refine z_iconst C (v := 0) dX4_init_13 (by decide) ?_
    refine z_anewarray (kc' := 240) (ks' := 10599) C mw_206 rfl dX4_init_14 ⟨by decide, by decide⟩ hf (fun h1 hf => ?_)
    refine z_putF C fl_X4_9 rfl (fun _ _ _ e => by cases e; rfl) dX4_init_17 rfl rfl hf (fun h2 hf => ?_)
    refine z_aload_n C dX4_init_20 0 rfl rfl ?_
    refine z_newf (kc' := 239) (ks' := 10598) C ni_X4_15 rfl dX4_init_21 ⟨by decide, by decide⟩ hf (fun h3 hf => ?_)
    refine z_dup C dX4_init_24 rfl ?_
    refine z_iload_n C dX4_init_25 1 rfl rfl ?_
    obtain ⟨i5, h6, g4, hf⟩ := zbind2 hf
    refine z_callI (kc' := 238) (ks' := 10584) C (MX1_init (xl X) (xD X) (xT X) (xlo X) (hi + 2) g4) cw_X4_17 mw_48 mw_209 mw_74 rfl ys_X1_init dX4_init_26 rfl (by decide) ⟨by decide, by decide⟩ (Nat.le_of_ble_eq_true rfl) (st := [.ref (hi + 1), .ref a0]) rfl ?_
    refine z_putF C fl_X4_20 rfl (fun _ _ _ e => by cases e; rfl) dX4_init_29 rfl rfl hf (fun h7 hf => ?_)
    refine z_iconst C (v := 0) dX4_init_32 (by decide) ?_
    refine z_istore_n C dX4_init_33 rfl (by decide) (lv' := [(2, .int 0), (0, .ref a0), (1, .int 14)]) rfl ?_
    refine z_iload_n C dX4_init_34 0 rfl rfl ?_
    refine z_aload_n C dX4_init_35 1 rfl rfl ?_
    refine z_getR C fl_X4_9 dX4_init_36 hf (fun x8 hf => ?_)
    refine z_alen C dX4_init_39 hf (fun x9 hf => ?_)
    refine z_icmp_ge (tgt := 62) C dX4_init_40 (by decide) hf (fun hf => ?_) (fun hf => ?_)
    · exact z_vreturn C dX4_init_62 (by cases hf; rfl)
    · refine z_aload_n C dX4_init_43 1 rfl rfl ?_
      refine z_getR C fl_X4_9 dX4_init_44 hf (fun x10 hf => ?_)
      refine z_iload_n C dX4_init_47 0 rfl rfl ?_
      refine z_newf (kc' := 237) (ks' := 10572) C ni_X4_7 rfl dX4_init_48 ⟨by decide, by decide⟩ hf (fun h11 hf => ?_)
      refine z_dup C dX4_init_51 rfl ?_
      obtain ⟨i13, h14, g12, hf⟩ := zbind2 hf
      refine z_callI (kc' := 221) (ks' := 9829) C (MX3_init (xl X) (xD X) (xT X) (xlo X) (i5 + 1) g12) cw_X4_24 mw_50 mw_210 mw_113 rfl ys_X3_init dX4_init_52 rfl (by decide) ⟨by decide, by decide⟩ (Nat.le_of_ble_eq_true rfl) (st := [.ref i5, .int 0, .ref x10]) rfl ?_
      refine z_aastore C dX4_init_55 hf (fun h15 hf => ?_)
      refine z_iinc C dX4_init_56 (k := 0) (d := 1) rfl (by decide) (by decide) (lv' := [(2, .int (0 + 1)), (0, .ref a0), (1, .int 14)]) rfl ?_
      refine z_goto (tgt := 34) C dX4_init_59 (by decide) ?_
      refine z_iload_n C dX4_init_34 0 rfl rfl ?_
      refine z_aload_n C dX4_init_35 1 rfl rfl ?_
      refine z_getR C fl_X4_9 dX4_init_36 hf (fun x16 hf => ?_)
      refine z_alen C dX4_init_39 hf (fun x17 hf => ?_)
      refine z_icmp_ge (tgt := 62) C dX4_init_40 (by decide) hf (fun hf => ?_) (fun hf => ?_)
      · exact z_vreturn C dX4_init_62 (by cases hf; rfl)
      · refine z_aload_n C dX4_init_43 1 rfl rfl ?_
        refine z_getR C fl_X4_9 dX4_init_44 hf (fun x18 hf => ?_)
        refine z_iload_n C dX4_init_47 0 rfl rfl ?_
        refine z_newf (kc' := 220) (ks' := 9817) C ni_X4_7 rfl dX4_init_48 ⟨by decide, by decide⟩ hf (fun h19 hf => ?_)
        refine z_dup C dX4_init_51 rfl ?_
        obtain ⟨i21, h22, g20, hf⟩ := zbind2 hf
        refine z_callI (kc' := 204) (ks' := 9074) C (MX3_init (xl X) (xD X) (xT X) (xlo X) (i13 + 1) g20) cw_X4_24 mw_50 mw_210 mw_113 rfl ys_X3_init dX4_init_52 rfl (by decide) ⟨by decide, by decide⟩ (Nat.le_of_ble_eq_true rfl) (st := [.ref i13, .int (0 + 1), .ref x18]) rfl ?_
        refine z_aastore C dX4_init_55 hf (fun h23 hf => ?_)
        refine z_iinc C dX4_init_56 (k := 0) (d := 1) rfl (by decide) (by decide) (lv' := [(2, .int ((0 + 1) + 1)), (0, .ref a0), (1, .int 14)]) rfl ?_
        refine z_goto (tgt := 34) C dX4_init_59 (by decide) ?_
        refine z_iload_n C dX4_init_34 0 rfl rfl ?_
        refine z_aload_n C dX4_init_35 1 rfl rfl ?_
        refine z_getR C fl_X4_9 dX4_init_36 hf (fun x24 hf => ?_)
        refine z_alen C dX4_init_39 hf (fun x25 hf => ?_)
        refine z_icmp_ge (tgt := 62) C dX4_init_40 (by decide) hf (fun hf => ?_) (fun hf => ?_)
        · exact z_vreturn C dX4_init_62 (by cases hf; rfl)
        · refine z_aload_n C dX4_init_43 1 rfl rfl ?_
          refine z_getR C fl_X4_9 dX4_init_44 hf (fun x26 hf => ?_)
          refine z_iload_n C dX4_init_47 0 rfl rfl ?_
          refine z_newf (kc' := 203) (ks' := 9062) C ni_X4_7 rfl dX4_init_48 ⟨by decide, by decide⟩ hf (fun h27 hf => ?_)
          refine z_dup C dX4_init_51 rfl ?_
          obtain ⟨i29, h30, g28, hf⟩ := zbind2 hf
          refine z_callI (kc' := 187) (ks' := 8319) C (MX3_init (xl X) (xD X) (xT X) (xlo X) (i21 + 1) g28) cw_X4_24 mw_50 mw_210 mw_113 rfl ys_X3_init dX4_init_52 rfl (by decide) ⟨by decide, by decide⟩ (Nat.le_of_ble_eq_true rfl) (st := [.ref i21, .int ((0 + 1) + 1), .ref x26]) rfl ?_
          refine z_aastore C dX4_init_55 hf (fun h31 hf => ?_)
          refine z_iinc C dX4_init_56 (k := 0) (d := 1) rfl (by decide) (by decide) (lv' := [(2, .int (((0 + 1) + 1) + 1)), (0, .ref a0), (1, .int 14)]) rfl ?_
          refine z_goto (tgt := 34) C dX4_init_59 (by decide) ?_
          refine z_iload_n C dX4_init_34 0 rfl rfl ?_
          refine z_aload_n C dX4_init_35 1 rfl rfl ?_
          refine z_getR C fl_X4_9 dX4_init_36 hf (fun x32 hf => ?_)
          refine z_alen C dX4_init_39 hf (fun x33 hf => ?_)
          refine z_icmp_ge (tgt := 62) C dX4_init_40 (by decide) hf (fun hf => ?_) (fun hf => ?_)
          · exact z_vreturn C dX4_init_62 (by cases hf; rfl)
          · refine z_aload_n C dX4_init_43 1 rfl rfl ?_
            refine z_getR C fl_X4_9 dX4_init_44 hf (fun x34 hf => ?_)
            refine z_iload_n C dX4_init_47 0 rfl rfl ?_
            refine z_newf (kc' := 186) (ks' := 8307) C ni_X4_7 rfl dX4_init_48 ⟨by decide, by decide⟩ hf (fun h35 hf => ?_)
            refine z_dup C dX4_init_51 rfl ?_
            obtain ⟨i37, h38, g36, hf⟩ := zbind2 hf
            refine z_callI (kc' := 170) (ks' := 7564) C (MX3_init (xl X) (xD X) (xT X) (xlo X) (i29 + 1) g36) cw_X4_24 mw_50 mw_210 mw_113 rfl ys_X3_init dX4_init_52 rfl (by decide) ⟨by decide, by decide⟩ (Nat.le_of_ble_eq_true rfl) (st := [.ref i29, .int (((0 + 1) + 1) + 1), .ref x34]) rfl ?_
            refine z_aastore C dX4_init_55 hf (fun h39 hf => ?_)
            refine z_iinc C dX4_init_56 (k := 0) (d := 1) rfl (by decide) (by decide) (lv' := [(2, .int ((((0 + 1) + 1) + 1) + 1)), (0, .ref a0), (1, .int 14)]) rfl ?_
            refine z_goto (tgt := 34) C dX4_init_59 (by decide) ?_
            refine z_iload_n C dX4_init_34 0 rfl rfl ?_
            refine z_aload_n C dX4_init_35 1 rfl rfl ?_
            refine z_getR C fl_X4_9 dX4_init_36 hf (fun x40 hf => ?_)
            refine z_alen C dX4_init_39 hf (fun x41 hf => ?_)
            refine z_icmp_ge (tgt := 62) C dX4_init_40 (by decide) hf (fun hf => ?_) (fun hf => ?_)
            · exact z_vreturn C dX4_init_62 (by cases hf; rfl)
            · refine z_aload_n C dX4_init_43 1 rfl rfl ?_
              refine z_getR C fl_X4_9 dX4_init_44 hf (fun x42 hf => ?_)
              refine z_iload_n C dX4_init_47 0 rfl rfl ?_
              refine z_newf (kc' := 169) (ks' := 7552) C ni_X4_7 rfl dX4_init_48 ⟨by decide, by decide⟩ hf (fun h43 hf => ?_)
              refine z_dup C dX4_init_51 rfl ?_
              obtain ⟨i45, h46, g44, hf⟩ := zbind2 hf
              refine z_callI (kc' := 153) (ks' := 6809) C (MX3_init (xl X) (xD X) (xT X) (xlo X) (i37 + 1) g44) cw_X4_24 mw_50 mw_210 mw_113 rfl ys_X3_init dX4_init_52 rfl (by decide) ⟨by decide, by decide⟩ (Nat.le_of_ble_eq_true rfl) (st := [.ref i37, .int ((((0 + 1) + 1) + 1) + 1), .ref x42]) rfl ?_
              refine z_aastore C dX4_init_55 hf (fun h47 hf => ?_)
              refine z_iinc C dX4_init_56 (k := 0) (d := 1) rfl (by decide) (by decide) (lv' := [(2, .int (((((0 + 1) + 1) + 1) + 1) + 1)), (0, .ref a0), (1, .int 14)]) rfl ?_
              refine z_goto (tgt := 34) C dX4_init_59 (by decide) ?_
              refine z_iload_n C dX4_init_34 0 rfl rfl ?_
              refine z_aload_n C dX4_init_35 1 rfl rfl ?_
              refine z_getR C fl_X4_9 dX4_init_36 hf (fun x48 hf => ?_)
              refine z_alen C dX4_init_39 hf (fun x49 hf => ?_)
              refine z_icmp_ge (tgt := 62) C dX4_init_40 (by decide) hf (fun hf => ?_) (fun hf => ?_)
              · exact z_vreturn C dX4_init_62 (by cases hf; rfl)
              · refine z_aload_n C dX4_init_43 1 rfl rfl ?_
                refine z_getR C fl_X4_9 dX4_init_44 hf (fun x50 hf => ?_)
                refine z_iload_n C dX4_init_47 0 rfl rfl ?_
                refine z_newf (kc' := 152) (ks' := 6797) C ni_X4_7 rfl dX4_init_48 ⟨by decide, by decide⟩ hf (fun h51 hf => ?_)
                refine z_dup C dX4_init_51 rfl ?_
                obtain ⟨i53, h54, g52, hf⟩ := zbind2 hf
                refine z_callI (kc' := 136) (ks' := 6054) C (MX3_init (xl X) (xD X) (xT X) (xlo X) (i45 + 1) g52) cw_X4_24 mw_50 mw_210 mw_113 rfl ys_X3_init dX4_init_52 rfl (by decide) ⟨by decide, by decide⟩ (Nat.le_of_ble_eq_true rfl) (st := [.ref i45, .int (((((0 + 1) + 1) + 1) + 1) + 1), .ref x50]) rfl ?_
                refine z_aastore C dX4_init_55 hf (fun h55 hf => ?_)
                refine z_iinc C dX4_init_56 (k := 0) (d := 1) rfl (by decide) (by decide) (lv' := [(2, .int ((((((0 + 1) + 1) + 1) + 1) + 1) + 1)), (0, .ref a0), (1, .int 14)]) rfl ?_
                refine z_goto (tgt := 34) C dX4_init_59 (by decide) ?_
                refine z_iload_n C dX4_init_34 0 rfl rfl ?_
                refine z_aload_n C dX4_init_35 1 rfl rfl ?_
                refine z_getR C fl_X4_9 dX4_init_36 hf (fun x56 hf => ?_)
                refine z_alen C dX4_init_39 hf (fun x57 hf => ?_)
                refine z_icmp_ge (tgt := 62) C dX4_init_40 (by decide) hf (fun hf => ?_) (fun hf => ?_)
                · exact z_vreturn C dX4_init_62 (by cases hf; rfl)
                · refine z_aload_n C dX4_init_43 1 rfl rfl ?_
                  refine z_getR C fl_X4_9 dX4_init_44 hf (fun x58 hf => ?_)
                  refine z_iload_n C dX4_init_47 0 rfl rfl ?_
                  refine z_newf (kc' := 135) (ks' := 6042) C ni_X4_7 rfl dX4_init_48 ⟨by decide, by decide⟩ hf (fun h59 hf => ?_)
                  refine z_dup C dX4_init_51 rfl ?_
                  obtain ⟨i61, h62, g60, hf⟩ := zbind2 hf
                  refine z_callI (kc' := 119) (ks' := 5299) C (MX3_init (xl X) (xD X) (xT X) (xlo X) (i53 + 1) g60) cw_X4_24 mw_50 mw_210 mw_113 rfl ys_X3_init dX4_init_52 rfl (by decide) ⟨by decide, by decide⟩ (Nat.le_of_ble_eq_true rfl) (st := [.ref i53, .int ((((((0 + 1) + 1) + 1) + 1) + 1) + 1), .ref x58]) rfl ?_
                  refine z_aastore C dX4_init_55 hf (fun h63 hf => ?_)
                  refine z_iinc C dX4_init_56 (k := 0) (d := 1) rfl (by decide) (by decide) (lv' := [(2, .int (((((((0 + 1) + 1) + 1) + 1) + 1) + 1) + 1)), (0, .ref a0), (1, .int 14)]) rfl ?_
                  refine z_goto (tgt := 34) C dX4_init_59 (by decide) ?_
                  refine z_iload_n C dX4_init_34 0 rfl rfl ?_
                  refine z_aload_n C dX4_init_35 1 rfl rfl ?_
                  refine z_getR C fl_X4_9 dX4_init_36 hf (fun x64 hf => ?_)
                  refine z_alen C dX4_init_39 hf (fun x65 hf => ?_)
                  refine z_icmp_ge (tgt := 62) C dX4_init_40 (by decide) hf (fun hf => ?_) (fun hf => ?_)
                  · exact z_vreturn C dX4_init_62 (by cases hf; rfl)
                  · refine z_aload_n C dX4_init_43 1 rfl rfl ?_
                    refine z_getR C fl_X4_9 dX4_init_44 hf (fun x66 hf => ?_)
                    refine z_iload_n C dX4_init_47 0 rfl rfl ?_
                    refine z_newf (kc' := 118) (ks' := 5287) C ni_X4_7 rfl dX4_init_48 ⟨by decide, by decide⟩ hf (fun h67 hf => ?_)
                    refine z_dup C dX4_init_51 rfl ?_
                    obtain ⟨i69, h70, g68, hf⟩ := zbind2 hf
                    refine z_callI (kc' := 102) (ks' := 4544) C (MX3_init (xl X) (xD X) (xT X) (xlo X) (i61 + 1) g68) cw_X4_24 mw_50 mw_210 mw_113 rfl ys_X3_init dX4_init_52 rfl (by decide) ⟨by decide, by decide⟩ (Nat.le_of_ble_eq_true rfl) (st := [.ref i61, .int (((((((0 + 1) + 1) + 1) + 1) + 1) + 1) + 1), .ref x66]) rfl ?_
                    refine z_aastore C dX4_init_55 hf (fun h71 hf => ?_)
                    refine z_iinc C dX4_init_56 (k := 0) (d := 1) rfl (by decide) (by decide) (lv' := [(2, .int ((((((((0 + 1) + 1) + 1) + 1) + 1) + 1) + 1) + 1)), (0, .ref a0), (1, .int 14)]) rfl ?_
                    refine z_goto (tgt := 34) C dX4_init_59 (by decide) ?_
                    refine z_iload_n C dX4_init_34 0 rfl rfl ?_
                    refine z_aload_n C dX4_init_35 1 rfl rfl ?_
                    refine z_getR C fl_X4_9 dX4_init_36 hf (fun x72 hf => ?_)
                    refine z_alen C dX4_init_39 hf (fun x73 hf => ?_)
                    refine z_icmp_ge (tgt := 62) C dX4_init_40 (by decide) hf (fun hf => ?_) (fun hf => ?_)
                    · exact z_vreturn C dX4_init_62 (by cases hf; rfl)
                    · refine z_aload_n C dX4_init_43 1 rfl rfl ?_
                      refine z_getR C fl_X4_9 dX4_init_44 hf (fun x74 hf => ?_)
                      refine z_iload_n C dX4_init_47 0 rfl rfl ?_
                      refine z_newf (kc' := 101) (ks' := 4532) C ni_X4_7 rfl dX4_init_48 ⟨by decide, by decide⟩ hf (fun h75 hf => ?_)
                      refine z_dup C dX4_init_51 rfl ?_
                      obtain ⟨i77, h78, g76, hf⟩ := zbind2 hf
                      refine z_callI (kc' := 85) (ks' := 3789) C (MX3_init (xl X) (xD X) (xT X) (xlo X) (i69 + 1) g76) cw_X4_24 mw_50 mw_210 mw_113 rfl ys_X3_init dX4_init_52 rfl (by decide) ⟨by decide, by decide⟩ (Nat.le_of_ble_eq_true rfl) (st := [.ref i69, .int ((((((((0 + 1) + 1) + 1) + 1) + 1) + 1) + 1) + 1), .ref x74]) rfl ?_
                      refine z_aastore C dX4_init_55 hf (fun h79 hf => ?_)
                      refine z_iinc C dX4_init_56 (k := 0) (d := 1) rfl (by decide) (by decide) (lv' := [(2, .int (((((((((0 + 1) + 1) + 1) + 1) + 1) + 1) + 1) + 1) + 1)), (0, .ref a0), (1, .int 14)]) rfl ?_
                      refine z_goto (tgt := 34) C dX4_init_59 (by decide) ?_
                      refine z_iload_n C dX4_init_34 0 rfl rfl ?_
                      refine z_aload_n C dX4_init_35 1 rfl rfl ?_
                      refine z_getR C fl_X4_9 dX4_init_36 hf (fun x80 hf => ?_)
                      refine z_alen C dX4_init_39 hf (fun x81 hf => ?_)
                      refine z_icmp_ge (tgt := 62) C dX4_init_40 (by decide) hf (fun hf => ?_) (fun hf => ?_)
                      · exact z_vreturn C dX4_init_62 (by cases hf; rfl)
                      · refine z_aload_n C dX4_init_43 1 rfl rfl ?_
                        refine z_getR C fl_X4_9 dX4_init_44 hf (fun x82 hf => ?_)
                        refine z_iload_n C dX4_init_47 0 rfl rfl ?_
                        refine z_newf (kc' := 84) (ks' := 3777) C ni_X4_7 rfl dX4_init_48 ⟨by decide, by decide⟩ hf (fun h83 hf => ?_)
                        refine z_dup C dX4_init_51 rfl ?_
                        obtain ⟨i85, h86, g84, hf⟩ := zbind2 hf
                        refine z_callI (kc' := 68) (ks' := 3034) C (MX3_init (xl X) (xD X) (xT X) (xlo X) (i77 + 1) g84) cw_X4_24 mw_50 mw_210 mw_113 rfl ys_X3_init dX4_init_52 rfl (by decide) ⟨by decide, by decide⟩ (Nat.le_of_ble_eq_true rfl) (st := [.ref i77, .int (((((((((0 + 1) + 1) + 1) + 1) + 1) + 1) + 1) + 1) + 1), .ref x82]) rfl ?_
                        refine z_aastore C dX4_init_55 hf (fun h87 hf => ?_)
                        refine z_iinc C dX4_init_56 (k := 0) (d := 1) rfl (by decide) (by decide) (lv' := [(2, .int ((((((((((0 + 1) + 1) + 1) + 1) + 1) + 1) + 1) + 1) + 1) + 1)), (0, .ref a0), (1, .int 14)]) rfl ?_
                        refine z_goto (tgt := 34) C dX4_init_59 (by decide) ?_
                        refine z_iload_n C dX4_init_34 0 rfl rfl ?_
                        refine z_aload_n C dX4_init_35 1 rfl rfl ?_
                        refine z_getR C fl_X4_9 dX4_init_36 hf (fun x88 hf => ?_)
                        refine z_alen C dX4_init_39 hf (fun x89 hf => ?_)
                        refine z_icmp_ge (tgt := 62) C dX4_init_40 (by decide) hf (fun hf => ?_) (fun hf => ?_)
                        · exact z_vreturn C dX4_init_62 (by cases hf; rfl)
                        · refine z_aload_n C dX4_init_43 1 rfl rfl ?_
                          refine z_getR C fl_X4_9 dX4_init_44 hf (fun x90 hf => ?_)
                          refine z_iload_n C dX4_init_47 0 rfl rfl ?_
                          refine z_newf (kc' := 67) (ks' := 3022) C ni_X4_7 rfl dX4_init_48 ⟨by decide, by decide⟩ hf (fun h91 hf => ?_)
                          refine z_dup C dX4_init_51 rfl ?_
                          obtain ⟨i93, h94, g92, hf⟩ := zbind2 hf
                          refine z_callI (kc' := 51) (ks' := 2279) C (MX3_init (xl X) (xD X) (xT X) (xlo X) (i85 + 1) g92) cw_X4_24 mw_50 mw_210 mw_113 rfl ys_X3_init dX4_init_52 rfl (by decide) ⟨by decide, by decide⟩ (Nat.le_of_ble_eq_true rfl) (st := [.ref i85, .int ((((((((((0 + 1) + 1) + 1) + 1) + 1) + 1) + 1) + 1) + 1) + 1), .ref x90]) rfl ?_
                          refine z_aastore C dX4_init_55 hf (fun h95 hf => ?_)
                          refine z_iinc C dX4_init_56 (k := 0) (d := 1) rfl (by decide) (by decide) (lv' := [(2, .int (((((((((((0 + 1) + 1) + 1) + 1) + 1) + 1) + 1) + 1) + 1) + 1) + 1)), (0, .ref a0), (1, .int 14)]) rfl ?_
                          refine z_goto (tgt := 34) C dX4_init_59 (by decide) ?_
                          refine z_iload_n C dX4_init_34 0 rfl rfl ?_
                          refine z_aload_n C dX4_init_35 1 rfl rfl ?_
                          refine z_getR C fl_X4_9 dX4_init_36 hf (fun x96 hf => ?_)
                          refine z_alen C dX4_init_39 hf (fun x97 hf => ?_)
                          refine z_icmp_ge (tgt := 62) C dX4_init_40 (by decide) hf (fun hf => ?_) (fun hf => ?_)
                          · exact z_vreturn C dX4_init_62 (by cases hf; rfl)
                          · refine z_aload_n C dX4_init_43 1 rfl rfl ?_
                            refine z_getR C fl_X4_9 dX4_init_44 hf (fun x98 hf => ?_)
                            refine z_iload_n C dX4_init_47 0 rfl rfl ?_
                            refine z_newf (kc' := 50) (ks' := 2267) C ni_X4_7 rfl dX4_init_48 ⟨by decide, by decide⟩ hf (fun h99 hf => ?_)
                            refine z_dup C dX4_init_51 rfl ?_
                            obtain ⟨i101, h102, g100, hf⟩ := zbind2 hf
                            refine z_callI (kc' := 34) (ks' := 1524) C (MX3_init (xl X) (xD X) (xT X) (xlo X) (i93 + 1) g100) cw_X4_24 mw_50 mw_210 mw_113 rfl ys_X3_init dX4_init_52 rfl (by decide) ⟨by decide, by decide⟩ (Nat.le_of_ble_eq_true rfl) (st := [.ref i93, .int (((((((((((0 + 1) + 1) + 1) + 1) + 1) + 1) + 1) + 1) + 1) + 1) + 1), .ref x98]) rfl ?_
                            refine z_aastore C dX4_init_55 hf (fun h103 hf => ?_)
                            refine z_iinc C dX4_init_56 (k := 0) (d := 1) rfl (by decide) (by decide) (lv' := [(2, .int ((((((((((((0 + 1) + 1) + 1) + 1) + 1) + 1) + 1) + 1) + 1) + 1) + 1) + 1)), (0, .ref a0), (1, .int 14)]) rfl ?_
                            refine z_goto (tgt := 34) C dX4_init_59 (by decide) ?_
                            refine z_iload_n C dX4_init_34 0 rfl rfl ?_
                            refine z_aload_n C dX4_init_35 1 rfl rfl ?_
                            refine z_getR C fl_X4_9 dX4_init_36 hf (fun x104 hf => ?_)
                            refine z_alen C dX4_init_39 hf (fun x105 hf => ?_)
                            refine z_icmp_ge (tgt := 62) C dX4_init_40 (by decide) hf (fun hf => ?_) (fun hf => ?_)
                            · exact z_vreturn C dX4_init_62 (by cases hf; rfl)
                            · refine z_aload_n C dX4_init_43 1 rfl rfl ?_
                              refine z_getR C fl_X4_9 dX4_init_44 hf (fun x106 hf => ?_)
                              refine z_iload_n C dX4_init_47 0 rfl rfl ?_
                              refine z_newf (kc' := 33) (ks' := 1512) C ni_X4_7 rfl dX4_init_48 ⟨by decide, by decide⟩ hf (fun h107 hf => ?_)
                              refine z_dup C dX4_init_51 rfl ?_
                              obtain ⟨i109, h110, g108, hf⟩ := zbind2 hf
                              refine z_callI (kc' := 17) (ks' := 769) C (MX3_init (xl X) (xD X) (xT X) (xlo X) (i101 + 1) g108) cw_X4_24 mw_50 mw_210 mw_113 rfl ys_X3_init dX4_init_52 rfl (by decide) ⟨by decide, by decide⟩ (Nat.le_of_ble_eq_true rfl) (st := [.ref i101, .int ((((((((((((0 + 1) + 1) + 1) + 1) + 1) + 1) + 1) + 1) + 1) + 1) + 1) + 1), .ref x106]) rfl ?_
                              refine z_aastore C dX4_init_55 hf (fun h111 hf => ?_)
                              refine z_iinc C dX4_init_56 (k := 0) (d := 1) rfl (by decide) (by decide) (lv' := [(2, .int (((((((((((((0 + 1) + 1) + 1) + 1) + 1) + 1) + 1) + 1) + 1) + 1) + 1) + 1) + 1)), (0, .ref a0), (1, .int 14)]) rfl ?_
                              refine z_goto (tgt := 34) C dX4_init_59 (by decide) ?_
                              refine z_iload_n C dX4_init_34 0 rfl rfl ?_
                              refine z_aload_n C dX4_init_35 1 rfl rfl ?_
                              refine z_getR C fl_X4_9 dX4_init_36 hf (fun x112 hf => ?_)
                              refine z_alen C dX4_init_39 hf (fun x113 hf => ?_)
                              refine z_icmp_ge (tgt := 62) C dX4_init_40 (by decide) hf (fun hf => ?_) (fun hf => ?_)
                              · exact z_vreturn C dX4_init_62 (by cases hf; rfl)
                              · refine z_aload_n C dX4_init_43 1 rfl rfl ?_
                                refine z_getR C fl_X4_9 dX4_init_44 hf (fun x114 hf => ?_)
                                refine z_iload_n C dX4_init_47 0 rfl rfl ?_
                                refine z_newf (kc' := 16) (ks' := 757) C ni_X4_7 rfl dX4_init_48 ⟨by decide, by decide⟩ hf (fun h115 hf => ?_)
                                refine z_dup C dX4_init_51 rfl ?_
                                obtain ⟨i117, h118, g116, hf⟩ := zbind2 hf
                                refine z_callI (kc' := 0) (ks' := 14) C (MX3_init (xl X) (xD X) (xT X) (xlo X) (i109 + 1) g116) cw_X4_24 mw_50 mw_210 mw_113 rfl ys_X3_init dX4_init_52 rfl (by decide) ⟨by decide, by decide⟩ (Nat.le_of_ble_eq_true rfl) (st := [.ref i109, .int (((((((((((((0 + 1) + 1) + 1) + 1) + 1) + 1) + 1) + 1) + 1) + 1) + 1) + 1) + 1), .ref x114]) rfl ?_
                                refine z_aastore C dX4_init_55 hf (fun h119 hf => ?_)
                                refine z_iinc C dX4_init_56 (k := 0) (d := 1) rfl (by decide) (by decide) (lv' := [(2, .int ((((((((((((((0 + 1) + 1) + 1) + 1) + 1) + 1) + 1) + 1) + 1) + 1) + 1) + 1) + 1) + 1)), (0, .ref a0), (1, .int 14)]) rfl ?_
                                refine z_goto (tgt := 34) C dX4_init_59 (by decide) ?_
                                refine z_iload_n C dX4_init_34 0 rfl rfl ?_
                                refine z_aload_n C dX4_init_35 1 rfl rfl ?_
                                refine z_getR C fl_X4_9 dX4_init_36 hf (fun x120 hf => ?_)
                                refine z_alen C dX4_init_39 hf (fun x121 hf => ?_)
                                refine z_icmp_ge (tgt := 62) C dX4_init_40 (by decide) hf (fun hf => ?_) (fun hf => ?_)
                                · exact z_vreturn C dX4_init_62 (by cases hf; rfl)
                                · exact nomatch hf
  · refine z_iload_n C dX4_init_9 1 rfl rfl ?_
    refine z_goto (tgt := 14) C dX4_init_10 (by decide) ?_
    refine z_anewarray (kc' := 240) (ks' := 10585) C mw_206 rfl dX4_init_14 ⟨by decide, by decide⟩ hf (fun h122 hf => ?_)
    refine z_putF C fl_X4_9 rfl (fun _ _ _ e => by cases e; rfl) dX4_init_17 rfl rfl hf (fun h123 hf => ?_)
    refine z_aload_n C dX4_init_20 0 rfl rfl ?_
    refine z_newf (kc' := 239) (ks' := 10584) C ni_X4_15 rfl dX4_init_21 ⟨by decide, by decide⟩ hf (fun h124 hf => ?_)
    refine z_dup C dX4_init_24 rfl ?_
    refine z_iload_n C dX4_init_25 1 rfl rfl ?_
    obtain ⟨i126, h127, g125, hf⟩ := zbind2 hf
    refine z_callI (kc' := 238) (ks' := 10570) C (MX1_init (xl X) (xD X) (xT X) (xlo X) (hi + 2) g125) cw_X4_17 mw_48 mw_209 mw_74 rfl ys_X1_init dX4_init_26 rfl (by decide) ⟨by decide, by decide⟩ (Nat.le_of_ble_eq_true rfl) (st := [.ref (hi + 1), .ref a0]) rfl ?_
    refine z_putF C fl_X4_20 rfl (fun _ _ _ e => by cases e; rfl) dX4_init_29 rfl rfl hf (fun h128 hf => ?_)
    refine z_iconst C (v := 0) dX4_init_32 (by decide) ?_
    refine z_istore_n C dX4_init_33 rfl (by decide) (lv' := [(2, .int 0), (0, .ref a0), (1, .int 14)]) rfl ?_
    refine z_iload_n C dX4_init_34 0 rfl rfl ?_
    refine z_aload_n C dX4_init_35 1 rfl rfl ?_
    refine z_getR C fl_X4_9 dX4_init_36 hf (fun x129 hf => ?_)
    refine z_alen C dX4_init_39 hf (fun x130 hf => ?_)
    refine z_icmp_ge (tgt := 62) C dX4_init_40 (by decide) hf (fun hf => ?_) (fun hf => ?_)
    · exact z_vreturn C dX4_init_62 (by cases hf; rfl)
    · refine z_aload_n C dX4_init_43 1 rfl rfl ?_
      refine z_getR C fl_X4_9 dX4_init_44 hf (fun x131 hf => ?_)
      refine z_iload_n C dX4_init_47 0 rfl rfl ?_
      refine z_newf (kc' := 237) (ks' := 10558) C ni_X4_7 rfl dX4_init_48 ⟨by decide, by decide⟩ hf (fun h132 hf => ?_)
      refine z_dup C dX4_init_51 rfl ?_
      obtain ⟨i134, h135, g133, hf⟩ := zbind2 hf
      refine z_callI (kc' := 221) (ks' := 9815) C (MX3_init (xl X) (xD X) (xT X) (xlo X) (i126 + 1) g133) cw_X4_24 mw_50 mw_210 mw_113 rfl ys_X3_init dX4_init_52 rfl (by decide) ⟨by decide, by decide⟩ (Nat.le_of_ble_eq_true rfl) (st := [.ref i126, .int 0, .ref x131]) rfl ?_
      refine z_aastore C dX4_init_55 hf (fun h136 hf => ?_)
      refine z_iinc C dX4_init_56 (k := 0) (d := 1) rfl (by decide) (by decide) (lv' := [(2, .int (0 + 1)), (0, .ref a0), (1, .int 14)]) rfl ?_
      refine z_goto (tgt := 34) C dX4_init_59 (by decide) ?_
      refine z_iload_n C dX4_init_34 0 rfl rfl ?_
      refine z_aload_n C dX4_init_35 1 rfl rfl ?_
      refine z_getR C fl_X4_9 dX4_init_36 hf (fun x137 hf => ?_)
      refine z_alen C dX4_init_39 hf (fun x138 hf => ?_)
      refine z_icmp_ge (tgt := 62) C dX4_init_40 (by decide) hf (fun hf => ?_) (fun hf => ?_)
      · exact z_vreturn C dX4_init_62 (by cases hf; rfl)
      · refine z_aload_n C dX4_init_43 1 rfl rfl ?_
        refine z_getR C fl_X4_9 dX4_init_44 hf (fun x139 hf => ?_)
        refine z_iload_n C dX4_init_47 0 rfl rfl ?_
        refine z_newf (kc' := 220) (ks' := 9803) C ni_X4_7 rfl dX4_init_48 ⟨by decide, by decide⟩ hf (fun h140 hf => ?_)
        refine z_dup C dX4_init_51 rfl ?_
        obtain ⟨i142, h143, g141, hf⟩ := zbind2 hf
        refine z_callI (kc' := 204) (ks' := 9060) C (MX3_init (xl X) (xD X) (xT X) (xlo X) (i134 + 1) g141) cw_X4_24 mw_50 mw_210 mw_113 rfl ys_X3_init dX4_init_52 rfl (by decide) ⟨by decide, by decide⟩ (Nat.le_of_ble_eq_true rfl) (st := [.ref i134, .int (0 + 1), .ref x139]) rfl ?_
        refine z_aastore C dX4_init_55 hf (fun h144 hf => ?_)
        refine z_iinc C dX4_init_56 (k := 0) (d := 1) rfl (by decide) (by decide) (lv' := [(2, .int ((0 + 1) + 1)), (0, .ref a0), (1, .int 14)]) rfl ?_
        refine z_goto (tgt := 34) C dX4_init_59 (by decide) ?_
        refine z_iload_n C dX4_init_34 0 rfl rfl ?_
        refine z_aload_n C dX4_init_35 1 rfl rfl ?_
        refine z_getR C fl_X4_9 dX4_init_36 hf (fun x145 hf => ?_)
        refine z_alen C dX4_init_39 hf (fun x146 hf => ?_)
        refine z_icmp_ge (tgt := 62) C dX4_init_40 (by decide) hf (fun hf => ?_) (fun hf => ?_)
        · exact z_vreturn C dX4_init_62 (by cases hf; rfl)
        · refine z_aload_n C dX4_init_43 1 rfl rfl ?_
          refine z_getR C fl_X4_9 dX4_init_44 hf (fun x147 hf => ?_)
          refine z_iload_n C dX4_init_47 0 rfl rfl ?_
          refine z_newf (kc' := 203) (ks' := 9048) C ni_X4_7 rfl dX4_init_48 ⟨by decide, by decide⟩ hf (fun h148 hf => ?_)
          refine z_dup C dX4_init_51 rfl ?_
          obtain ⟨i150, h151, g149, hf⟩ := zbind2 hf
          refine z_callI (kc' := 187) (ks' := 8305) C (MX3_init (xl X) (xD X) (xT X) (xlo X) (i142 + 1) g149) cw_X4_24 mw_50 mw_210 mw_113 rfl ys_X3_init dX4_init_52 rfl (by decide) ⟨by decide, by decide⟩ (Nat.le_of_ble_eq_true rfl) (st := [.ref i142, .int ((0 + 1) + 1), .ref x147]) rfl ?_
          refine z_aastore C dX4_init_55 hf (fun h152 hf => ?_)
          refine z_iinc C dX4_init_56 (k := 0) (d := 1) rfl (by decide) (by decide) (lv' := [(2, .int (((0 + 1) + 1) + 1)), (0, .ref a0), (1, .int 14)]) rfl ?_
          refine z_goto (tgt := 34) C dX4_init_59 (by decide) ?_
          refine z_iload_n C dX4_init_34 0 rfl rfl ?_
          refine z_aload_n C dX4_init_35 1 rfl rfl ?_
          refine z_getR C fl_X4_9 dX4_init_36 hf (fun x153 hf => ?_)
          refine z_alen C dX4_init_39 hf (fun x154 hf => ?_)
          refine z_icmp_ge (tgt := 62) C dX4_init_40 (by decide) hf (fun hf => ?_) (fun hf => ?_)
          · exact z_vreturn C dX4_init_62 (by cases hf; rfl)
          · refine z_aload_n C dX4_init_43 1 rfl rfl ?_
            refine z_getR C fl_X4_9 dX4_init_44 hf (fun x155 hf => ?_)
            refine z_iload_n C dX4_init_47 0 rfl rfl ?_
            refine z_newf (kc' := 186) (ks' := 8293) C ni_X4_7 rfl dX4_init_48 ⟨by decide, by decide⟩ hf (fun h156 hf => ?_)
            refine z_dup C dX4_init_51 rfl ?_
            obtain ⟨i158, h159, g157, hf⟩ := zbind2 hf
            refine z_callI (kc' := 170) (ks' := 7550) C (MX3_init (xl X) (xD X) (xT X) (xlo X) (i150 + 1) g157) cw_X4_24 mw_50 mw_210 mw_113 rfl ys_X3_init dX4_init_52 rfl (by decide) ⟨by decide, by decide⟩ (Nat.le_of_ble_eq_true rfl) (st := [.ref i150, .int (((0 + 1) + 1) + 1), .ref x155]) rfl ?_
            refine z_aastore C dX4_init_55 hf (fun h160 hf => ?_)
            refine z_iinc C dX4_init_56 (k := 0) (d := 1) rfl (by decide) (by decide) (lv' := [(2, .int ((((0 + 1) + 1) + 1) + 1)), (0, .ref a0), (1, .int 14)]) rfl ?_
            refine z_goto (tgt := 34) C dX4_init_59 (by decide) ?_
            refine z_iload_n C dX4_init_34 0 rfl rfl ?_
            refine z_aload_n C dX4_init_35 1 rfl rfl ?_
            refine z_getR C fl_X4_9 dX4_init_36 hf (fun x161 hf => ?_)
            refine z_alen C dX4_init_39 hf (fun x162 hf => ?_)
            refine z_icmp_ge (tgt := 62) C dX4_init_40 (by decide) hf (fun hf => ?_) (fun hf => ?_)
            · exact z_vreturn C dX4_init_62 (by cases hf; rfl)
            · refine z_aload_n C dX4_init_43 1 rfl rfl ?_
              refine z_getR C fl_X4_9 dX4_init_44 hf (fun x163 hf => ?_)
              refine z_iload_n C dX4_init_47 0 rfl rfl ?_
              refine z_newf (kc' := 169) (ks' := 7538) C ni_X4_7 rfl dX4_init_48 ⟨by decide, by decide⟩ hf (fun h164 hf => ?_)
              refine z_dup C dX4_init_51 rfl ?_
              obtain ⟨i166, h167, g165, hf⟩ := zbind2 hf
              refine z_callI (kc' := 153) (ks' := 6795) C (MX3_init (xl X) (xD X) (xT X) (xlo X) (i158 + 1) g165) cw_X4_24 mw_50 mw_210 mw_113 rfl ys_X3_init dX4_init_52 rfl (by decide) ⟨by decide, by decide⟩ (Nat.le_of_ble_eq_true rfl) (st := [.ref i158, .int ((((0 + 1) + 1) + 1) + 1), .ref x163]) rfl ?_
              refine z_aastore C dX4_init_55 hf (fun h168 hf => ?_)
              refine z_iinc C dX4_init_56 (k := 0) (d := 1) rfl (by decide) (by decide) (lv' := [(2, .int (((((0 + 1) + 1) + 1) + 1) + 1)), (0, .ref a0), (1, .int 14)]) rfl ?_
              refine z_goto (tgt := 34) C dX4_init_59 (by decide) ?_
              refine z_iload_n C dX4_init_34 0 rfl rfl ?_
              refine z_aload_n C dX4_init_35 1 rfl rfl ?_
              refine z_getR C fl_X4_9 dX4_init_36 hf (fun x169 hf => ?_)
              refine z_alen C dX4_init_39 hf (fun x170 hf => ?_)
              refine z_icmp_ge (tgt := 62) C dX4_init_40 (by decide) hf (fun hf => ?_) (fun hf => ?_)
              · exact z_vreturn C dX4_init_62 (by cases hf; rfl)
              · refine z_aload_n C dX4_init_43 1 rfl rfl ?_
                refine z_getR C fl_X4_9 dX4_init_44 hf (fun x171 hf => ?_)
                refine z_iload_n C dX4_init_47 0 rfl rfl ?_
                refine z_newf (kc' := 152) (ks' := 6783) C ni_X4_7 rfl dX4_init_48 ⟨by decide, by decide⟩ hf (fun h172 hf => ?_)
                refine z_dup C dX4_init_51 rfl ?_
                obtain ⟨i174, h175, g173, hf⟩ := zbind2 hf
                refine z_callI (kc' := 136) (ks' := 6040) C (MX3_init (xl X) (xD X) (xT X) (xlo X) (i166 + 1) g173) cw_X4_24 mw_50 mw_210 mw_113 rfl ys_X3_init dX4_init_52 rfl (by decide) ⟨by decide, by decide⟩ (Nat.le_of_ble_eq_true rfl) (st := [.ref i166, .int (((((0 + 1) + 1) + 1) + 1) + 1), .ref x171]) rfl ?_
                refine z_aastore C dX4_init_55 hf (fun h176 hf => ?_)
                refine z_iinc C dX4_init_56 (k := 0) (d := 1) rfl (by decide) (by decide) (lv' := [(2, .int ((((((0 + 1) + 1) + 1) + 1) + 1) + 1)), (0, .ref a0), (1, .int 14)]) rfl ?_
                refine z_goto (tgt := 34) C dX4_init_59 (by decide) ?_
                refine z_iload_n C dX4_init_34 0 rfl rfl ?_
                refine z_aload_n C dX4_init_35 1 rfl rfl ?_
                refine z_getR C fl_X4_9 dX4_init_36 hf (fun x177 hf => ?_)
                refine z_alen C dX4_init_39 hf (fun x178 hf => ?_)
                refine z_icmp_ge (tgt := 62) C dX4_init_40 (by decide) hf (fun hf => ?_) (fun hf => ?_)
                · exact z_vreturn C dX4_init_62 (by cases hf; rfl)
                · refine z_aload_n C dX4_init_43 1 rfl rfl ?_
                  refine z_getR C fl_X4_9 dX4_init_44 hf (fun x179 hf => ?_)
                  refine z_iload_n C dX4_init_47 0 rfl rfl ?_
                  refine z_newf (kc' := 135) (ks' := 6028) C ni_X4_7 rfl dX4_init_48 ⟨by decide, by decide⟩ hf (fun h180 hf => ?_)
                  refine z_dup C dX4_init_51 rfl ?_
                  obtain ⟨i182, h183, g181, hf⟩ := zbind2 hf
                  refine z_callI (kc' := 119) (ks' := 5285) C (MX3_init (xl X) (xD X) (xT X) (xlo X) (i174 + 1) g181) cw_X4_24 mw_50 mw_210 mw_113 rfl ys_X3_init dX4_init_52 rfl (by decide) ⟨by decide, by decide⟩ (Nat.le_of_ble_eq_true rfl) (st := [.ref i174, .int ((((((0 + 1) + 1) + 1) + 1) + 1) + 1), .ref x179]) rfl ?_
                  refine z_aastore C dX4_init_55 hf (fun h184 hf => ?_)
                  refine z_iinc C dX4_init_56 (k := 0) (d := 1) rfl (by decide) (by decide) (lv' := [(2, .int (((((((0 + 1) + 1) + 1) + 1) + 1) + 1) + 1)), (0, .ref a0), (1, .int 14)]) rfl ?_
                  refine z_goto (tgt := 34) C dX4_init_59 (by decide) ?_
                  refine z_iload_n C dX4_init_34 0 rfl rfl ?_
                  refine z_aload_n C dX4_init_35 1 rfl rfl ?_
                  refine z_getR C fl_X4_9 dX4_init_36 hf (fun x185 hf => ?_)
                  refine z_alen C dX4_init_39 hf (fun x186 hf => ?_)
                  refine z_icmp_ge (tgt := 62) C dX4_init_40 (by decide) hf (fun hf => ?_) (fun hf => ?_)
                  · exact z_vreturn C dX4_init_62 (by cases hf; rfl)
                  · refine z_aload_n C dX4_init_43 1 rfl rfl ?_
                    refine z_getR C fl_X4_9 dX4_init_44 hf (fun x187 hf => ?_)
                    refine z_iload_n C dX4_init_47 0 rfl rfl ?_
                    refine z_newf (kc' := 118) (ks' := 5273) C ni_X4_7 rfl dX4_init_48 ⟨by decide, by decide⟩ hf (fun h188 hf => ?_)
                    refine z_dup C dX4_init_51 rfl ?_
                    obtain ⟨i190, h191, g189, hf⟩ := zbind2 hf
                    refine z_callI (kc' := 102) (ks' := 4530) C (MX3_init (xl X) (xD X) (xT X) (xlo X) (i182 + 1) g189) cw_X4_24 mw_50 mw_210 mw_113 rfl ys_X3_init dX4_init_52 rfl (by decide) ⟨by decide, by decide⟩ (Nat.le_of_ble_eq_true rfl) (st := [.ref i182, .int (((((((0 + 1) + 1) + 1) + 1) + 1) + 1) + 1), .ref x187]) rfl ?_
                    refine z_aastore C dX4_init_55 hf (fun h192 hf => ?_)
                    refine z_iinc C dX4_init_56 (k := 0) (d := 1) rfl (by decide) (by decide) (lv' := [(2, .int ((((((((0 + 1) + 1) + 1) + 1) + 1) + 1) + 1) + 1)), (0, .ref a0), (1, .int 14)]) rfl ?_
                    refine z_goto (tgt := 34) C dX4_init_59 (by decide) ?_
                    refine z_iload_n C dX4_init_34 0 rfl rfl ?_
                    refine z_aload_n C dX4_init_35 1 rfl rfl ?_
                    refine z_getR C fl_X4_9 dX4_init_36 hf (fun x193 hf => ?_)
                    refine z_alen C dX4_init_39 hf (fun x194 hf => ?_)
                    refine z_icmp_ge (tgt := 62) C dX4_init_40 (by decide) hf (fun hf => ?_) (fun hf => ?_)
                    · exact z_vreturn C dX4_init_62 (by cases hf; rfl)
                    · refine z_aload_n C dX4_init_43 1 rfl rfl ?_
                      refine z_getR C fl_X4_9 dX4_init_44 hf (fun x195 hf => ?_)
                      refine z_iload_n C dX4_init_47 0 rfl rfl ?_
                      refine z_newf (kc' := 101) (ks' := 4518) C ni_X4_7 rfl dX4_init_48 ⟨by decide, by decide⟩ hf (fun h196 hf => ?_)
                      refine z_dup C dX4_init_51 rfl ?_
                      obtain ⟨i198, h199, g197, hf⟩ := zbind2 hf
                      refine z_callI (kc' := 85) (ks' := 3775) C (MX3_init (xl X) (xD X) (xT X) (xlo X) (i190 + 1) g197) cw_X4_24 mw_50 mw_210 mw_113 rfl ys_X3_init dX4_init_52 rfl (by decide) ⟨by decide, by decide⟩ (Nat.le_of_ble_eq_true rfl) (st := [.ref i190, .int ((((((((0 + 1) + 1) + 1) + 1) + 1) + 1) + 1) + 1), .ref x195]) rfl ?_
                      refine z_aastore C dX4_init_55 hf (fun h200 hf => ?_)
                      refine z_iinc C dX4_init_56 (k := 0) (d := 1) rfl (by decide) (by decide) (lv' := [(2, .int (((((((((0 + 1) + 1) + 1) + 1) + 1) + 1) + 1) + 1) + 1)), (0, .ref a0), (1, .int 14)]) rfl ?_
                      refine z_goto (tgt := 34) C dX4_init_59 (by decide) ?_
                      refine z_iload_n C dX4_init_34 0 rfl rfl ?_
                      refine z_aload_n C dX4_init_35 1 rfl rfl ?_
                      refine z_getR C fl_X4_9 dX4_init_36 hf (fun x201 hf => ?_)
                      refine z_alen C dX4_init_39 hf (fun x202 hf => ?_)
                      refine z_icmp_ge (tgt := 62) C dX4_init_40 (by decide) hf (fun hf => ?_) (fun hf => ?_)
                      · exact z_vreturn C dX4_init_62 (by cases hf; rfl)
                      · refine z_aload_n C dX4_init_43 1 rfl rfl ?_
                        refine z_getR C fl_X4_9 dX4_init_44 hf (fun x203 hf => ?_)
                        refine z_iload_n C dX4_init_47 0 rfl rfl ?_
                        refine z_newf (kc' := 84) (ks' := 3763) C ni_X4_7 rfl dX4_init_48 ⟨by decide, by decide⟩ hf (fun h204 hf => ?_)
                        refine z_dup C dX4_init_51 rfl ?_
                        obtain ⟨i206, h207, g205, hf⟩ := zbind2 hf
                        refine z_callI (kc' := 68) (ks' := 3020) C (MX3_init (xl X) (xD X) (xT X) (xlo X) (i198 + 1) g205) cw_X4_24 mw_50 mw_210 mw_113 rfl ys_X3_init dX4_init_52 rfl (by decide) ⟨by decide, by decide⟩ (Nat.le_of_ble_eq_true rfl) (st := [.ref i198, .int (((((((((0 + 1) + 1) + 1) + 1) + 1) + 1) + 1) + 1) + 1), .ref x203]) rfl ?_
                        refine z_aastore C dX4_init_55 hf (fun h208 hf => ?_)
                        refine z_iinc C dX4_init_56 (k := 0) (d := 1) rfl (by decide) (by decide) (lv' := [(2, .int ((((((((((0 + 1) + 1) + 1) + 1) + 1) + 1) + 1) + 1) + 1) + 1)), (0, .ref a0), (1, .int 14)]) rfl ?_
                        refine z_goto (tgt := 34) C dX4_init_59 (by decide) ?_
                        refine z_iload_n C dX4_init_34 0 rfl rfl ?_
                        refine z_aload_n C dX4_init_35 1 rfl rfl ?_
                        refine z_getR C fl_X4_9 dX4_init_36 hf (fun x209 hf => ?_)
                        refine z_alen C dX4_init_39 hf (fun x210 hf => ?_)
                        refine z_icmp_ge (tgt := 62) C dX4_init_40 (by decide) hf (fun hf => ?_) (fun hf => ?_)
                        · exact z_vreturn C dX4_init_62 (by cases hf; rfl)
                        · refine z_aload_n C dX4_init_43 1 rfl rfl ?_
                          refine z_getR C fl_X4_9 dX4_init_44 hf (fun x211 hf => ?_)
                          refine z_iload_n C dX4_init_47 0 rfl rfl ?_
                          refine z_newf (kc' := 67) (ks' := 3008) C ni_X4_7 rfl dX4_init_48 ⟨by decide, by decide⟩ hf (fun h212 hf => ?_)
                          refine z_dup C dX4_init_51 rfl ?_
                          obtain ⟨i214, h215, g213, hf⟩ := zbind2 hf
                          refine z_callI (kc' := 51) (ks' := 2265) C (MX3_init (xl X) (xD X) (xT X) (xlo X) (i206 + 1) g213) cw_X4_24 mw_50 mw_210 mw_113 rfl ys_X3_init dX4_init_52 rfl (by decide) ⟨by decide, by decide⟩ (Nat.le_of_ble_eq_true rfl) (st := [.ref i206, .int ((((((((((0 + 1) + 1) + 1) + 1) + 1) + 1) + 1) + 1) + 1) + 1), .ref x211]) rfl ?_
                          refine z_aastore C dX4_init_55 hf (fun h216 hf => ?_)
                          refine z_iinc C dX4_init_56 (k := 0) (d := 1) rfl (by decide) (by decide) (lv' := [(2, .int (((((((((((0 + 1) + 1) + 1) + 1) + 1) + 1) + 1) + 1) + 1) + 1) + 1)), (0, .ref a0), (1, .int 14)]) rfl ?_
                          refine z_goto (tgt := 34) C dX4_init_59 (by decide) ?_
                          refine z_iload_n C dX4_init_34 0 rfl rfl ?_
                          refine z_aload_n C dX4_init_35 1 rfl rfl ?_
                          refine z_getR C fl_X4_9 dX4_init_36 hf (fun x217 hf => ?_)
                          refine z_alen C dX4_init_39 hf (fun x218 hf => ?_)
                          refine z_icmp_ge (tgt := 62) C dX4_init_40 (by decide) hf (fun hf => ?_) (fun hf => ?_)
                          · exact z_vreturn C dX4_init_62 (by cases hf; rfl)
                          · refine z_aload_n C dX4_init_43 1 rfl rfl ?_
                            refine z_getR C fl_X4_9 dX4_init_44 hf (fun x219 hf => ?_)
                            refine z_iload_n C dX4_init_47 0 rfl rfl ?_
                            refine z_newf (kc' := 50) (ks' := 2253) C ni_X4_7 rfl dX4_init_48 ⟨by decide, by decide⟩ hf (fun h220 hf => ?_)
                            refine z_dup C dX4_init_51 rfl ?_
                            obtain ⟨i222, h223, g221, hf⟩ := zbind2 hf
                            refine z_callI (kc' := 34) (ks' := 1510) C (MX3_init (xl X) (xD X) (xT X) (xlo X) (i214 + 1) g221) cw_X4_24 mw_50 mw_210 mw_113 rfl ys_X3_init dX4_init_52 rfl (by decide) ⟨by decide, by decide⟩ (Nat.le_of_ble_eq_true rfl) (st := [.ref i214, .int (((((((((((0 + 1) + 1) + 1) + 1) + 1) + 1) + 1) + 1) + 1) + 1) + 1), .ref x219]) rfl ?_
                            refine z_aastore C dX4_init_55 hf (fun h224 hf => ?_)
                            refine z_iinc C dX4_init_56 (k := 0) (d := 1) rfl (by decide) (by decide) (lv' := [(2, .int ((((((((((((0 + 1) + 1) + 1) + 1) + 1) + 1) + 1) + 1) + 1) + 1) + 1) + 1)), (0, .ref a0), (1, .int 14)]) rfl ?_
                            refine z_goto (tgt := 34) C dX4_init_59 (by decide) ?_
                            refine z_iload_n C dX4_init_34 0 rfl rfl ?_
                            refine z_aload_n C dX4_init_35 1 rfl rfl ?_
                            refine z_getR C fl_X4_9 dX4_init_36 hf (fun x225 hf => ?_)
                            refine z_alen C dX4_init_39 hf (fun x226 hf => ?_)
                            refine z_icmp_ge (tgt := 62) C dX4_init_40 (by decide) hf (fun hf => ?_) (fun hf => ?_)
                            · exact z_vreturn C dX4_init_62 (by cases hf; rfl)
                            · refine z_aload_n C dX4_init_43 1 rfl rfl ?_
                              refine z_getR C fl_X4_9 dX4_init_44 hf (fun x227 hf => ?_)
                              refine z_iload_n C dX4_init_47 0 rfl rfl ?_
                              refine z_newf (kc' := 33) (ks' := 1498) C ni_X4_7 rfl dX4_init_48 ⟨by decide, by decide⟩ hf (fun h228 hf => ?_)
                              refine z_dup C dX4_init_51 rfl ?_
                              obtain ⟨i230, h231, g229, hf⟩ := zbind2 hf
                              refine z_callI (kc' := 17) (ks' := 755) C (MX3_init (xl X) (xD X) (xT X) (xlo X) (i222 + 1) g229) cw_X4_24 mw_50 mw_210 mw_113 rfl ys_X3_init dX4_init_52 rfl (by decide) ⟨by decide, by decide⟩ (Nat.le_of_ble_eq_true rfl) (st := [.ref i222, .int ((((((((((((0 + 1) + 1) + 1) + 1) + 1) + 1) + 1) + 1) + 1) + 1) + 1) + 1), .ref x227]) rfl ?_
                              refine z_aastore C dX4_init_55 hf (fun h232 hf => ?_)
                              refine z_iinc C dX4_init_56 (k := 0) (d := 1) rfl (by decide) (by decide) (lv' := [(2, .int (((((((((((((0 + 1) + 1) + 1) + 1) + 1) + 1) + 1) + 1) + 1) + 1) + 1) + 1) + 1)), (0, .ref a0), (1, .int 14)]) rfl ?_
                              refine z_goto (tgt := 34) C dX4_init_59 (by decide) ?_
                              refine z_iload_n C dX4_init_34 0 rfl rfl ?_
                              refine z_aload_n C dX4_init_35 1 rfl rfl ?_
                              refine z_getR C fl_X4_9 dX4_init_36 hf (fun x233 hf => ?_)
                              refine z_alen C dX4_init_39 hf (fun x234 hf => ?_)
                              refine z_icmp_ge (tgt := 62) C dX4_init_40 (by decide) hf (fun hf => ?_) (fun hf => ?_)
                              · exact z_vreturn C dX4_init_62 (by cases hf; rfl)
                              · refine z_aload_n C dX4_init_43 1 rfl rfl ?_
                                refine z_getR C fl_X4_9 dX4_init_44 hf (fun x235 hf => ?_)
                                refine z_iload_n C dX4_init_47 0 rfl rfl ?_
                                refine z_newf (kc' := 16) (ks' := 743) C ni_X4_7 rfl dX4_init_48 ⟨by decide, by decide⟩ hf (fun h236 hf => ?_)
                                refine z_dup C dX4_init_51 rfl ?_
                                obtain ⟨i238, h239, g237, hf⟩ := zbind2 hf
                                refine z_callI (kc' := 0) (ks' := 0) C (MX3_init (xl X) (xD X) (xT X) (xlo X) (i230 + 1) g237) cw_X4_24 mw_50 mw_210 mw_113 rfl ys_X3_init dX4_init_52 rfl (by decide) ⟨by decide, by decide⟩ (Nat.le_of_ble_eq_true rfl) (st := [.ref i230, .int (((((((((((((0 + 1) + 1) + 1) + 1) + 1) + 1) + 1) + 1) + 1) + 1) + 1) + 1) + 1), .ref x235]) rfl ?_
                                refine z_aastore C dX4_init_55 hf (fun h240 hf => ?_)
                                refine z_iinc C dX4_init_56 (k := 0) (d := 1) rfl (by decide) (by decide) (lv' := [(2, .int ((((((((((((((0 + 1) + 1) + 1) + 1) + 1) + 1) + 1) + 1) + 1) + 1) + 1) + 1) + 1) + 1)), (0, .ref a0), (1, .int 14)]) rfl ?_
                                refine z_goto (tgt := 34) C dX4_init_59 (by decide) ?_
                                refine z_iload_n C dX4_init_34 0 rfl rfl ?_
                                refine z_aload_n C dX4_init_35 1 rfl rfl ?_
                                refine z_getR C fl_X4_9 dX4_init_36 hf (fun x241 hf => ?_)
                                refine z_alen C dX4_init_39 hf (fun x242 hf => ?_)
                                refine z_icmp_ge (tgt := 62) C dX4_init_40 (by decide) hf (fun hf => ?_) (fun hf => ?_)
                                · exact z_vreturn C dX4_init_62 (by cases hf; rfl)
                                · exact nomatch hf
theorem MX4_init14 (l : Launch) (D : va_G) (T : zT) (lo : Nat) (hi : Nat) {h : zH} {a0 : Nat} {i9 : Nat} {h9 : zH} (hf : FX4_init14 T a0 hi h = some (i9, h9)) : zM l yX4_init (.code yX4_init cX4_init 3 none :: TW) ({ frames := 4, cells := 241, slots := 10599, locals := 86 } : Room) D T lo true [.ref a0, .int 14] hi h (none, i9, h9) :=
  z_enter (own := RX4) (nm := "<init>") (lv := [(0, .ref a0), (1, .int 14)]) (by decide +kernel) rfl rfl (Nat.le_of_ble_eq_true rfl) rfl (fun _ _ _ _ _ _ _ _ C => BX4_init14 C hf)
theorem OX4_init14 {T : zT} {hi : Nat} {h : zH} {a0 : Nat} {r9 : (Nat × zH)} (hf : FX4_init14 T a0 hi h = some r9) : ∃ fs, h a0 = some (.inr (4, fs)) := by
  obtain ⟨_, h1, _⟩ := zbind hf
  exact zo_obj h1
def FX4_init2 (T : zT) (a0 : Nat) (hi : Nat) (h : zH) : Option (Nat × zH) := (zo h a0 4).bind fun _ => if (2 : Int32) ≤ 0 then ((znq T.2.2.2 h hi 0).bind fun h1 => (zpv h1 a0 4 0 (.ref hi)).bind fun h2 => (znw h2 (hi + 1) 1 [.null]).bind fun h3 => zb2 (FX1_init T (hi + 1) 2 (hi + 2) h3) fun i5 h6 => (zpv h6 a0 4 1 (.ref (hi + 1))).bind fun h7 => (zgr h7 a0 4 0).bind fun x8 => (zln T h7 x8).bind fun x9 => if x9 ≤ (0 : Int32) then (some (i5, h7)) else ((zgr h7 a0 4 0).bind fun x10 => (znw h7 i5 3 [.int 0, .int 0, .int 0, .int 0, .null, .null, .null, .null, .null, .null, .null, .null]).bind fun h11 => zb2 (FX3_init T i5 (i5 + 1) h11) fun i13 h14 => (zqs T h14 x10 0 i5).bind fun h15 => (zgr h15 a0 4 0).bind fun x16 => (zln T h15 x16).bind fun x17 => if x17 ≤ (0 + 1) then (some (i13, h15)) else ((zgr h15 a0 4 0).bind fun x18 => (znw h15 i13 3 [.int 0, .int 0, .int 0, .int 0, .null, .null, .null, .null, .null, .null, .null, .null]).bind fun h19 => zb2 (FX3_init T i13 (i13 + 1) h19) fun i21 h22 => (zqs T h22 x18 (0 + 1) i13).bind fun h23 => (zgr h23 a0 4 0).bind fun x24 => (zln T h23 x24).bind fun x25 => if x25 ≤ ((0 + 1) + 1) then (some (i21, h23)) else (none)))) else ((znq T.2.2.2 h hi 2).bind fun h26 => (zpv h26 a0 4 0 (.ref hi)).bind fun h27 => (znw h27 (hi + 1) 1 [.null]).bind fun h28 => zb2 (FX1_init T (hi + 1) 2 (hi + 2) h28) fun i30 h31 => (zpv h31 a0 4 1 (.ref (hi + 1))).bind fun h32 => (zgr h32 a0 4 0).bind fun x33 => (zln T h32 x33).bind fun x34 => if x34 ≤ (0 : Int32) then (some (i30, h32)) else ((zgr h32 a0 4 0).bind fun x35 => (znw h32 i30 3 [.int 0, .int 0, .int 0, .int 0, .null, .null, .null, .null, .null, .null, .null, .null]).bind fun h36 => zb2 (FX3_init T i30 (i30 + 1) h36) fun i38 h39 => (zqs T h39 x35 0 i30).bind fun h40 => (zgr h40 a0 4 0).bind fun x41 => (zln T h40 x41).bind fun x42 => if x42 ≤ (0 + 1) then (some (i38, h40)) else ((zgr h40 a0 4 0).bind fun x43 => (znw h40 i38 3 [.int 0, .int 0, .int 0, .int 0, .null, .null, .null, .null, .null, .null, .null, .null]).bind fun h44 => zb2 (FX3_init T i38 (i38 + 1) h44) fun i46 h47 => (zqs T h47 x43 (0 + 1) i38).bind fun h48 => (zgr h48 a0 4 0).bind fun x49 => (zln T h48 x49).bind fun x50 => if x50 ≤ ((0 + 1) + 1) then (some (i46, h48)) else (none))))
set_option maxHeartbeats 4000000 in
set_option maxRecDepth 100000 in
theorem BX4_init2 {X : zX} (C : zC X cX4_init 3 RX4 "<init>" none 4 86) {hi : Nat} {h : zH} {a0 : Nat} {r9 : (Nat × zH)} (hf : FX4_init2 (xT X) a0 hi h = some r9) : zW X 3 (zZ X true (none, r9.1, r9.2)) 37 1515 true hi h 0 [(0, .ref a0), (1, .int 2)] [] := by
  unfold FX4_init2 at hf
  obtain ⟨_, _, hf⟩ := zbind hf
  refine z_aload_n C dX4_init_0 0 rfl rfl ?_
  refine z_objInit C mw_205 mw_obji mw_objc dX4_init_1 ⟨Nat.le_of_ble_eq_true rfl, Nat.le_of_ble_eq_true rfl⟩ ?_
  refine z_aload_n C dX4_init_4 0 rfl rfl ?_
  refine z_iload_n C dX4_init_5 1 rfl rfl ?_
  refine z_if_le (tgt := 13) C dX4_init_6 (by decide) hf (fun hf => ?_) (fun hf => ?_)
  · refine z_iconst C (v := 0) dX4_init_13 (by decide) ?_
    refine z_anewarray (kc' := 36) (ks' := 1515) C mw_206 rfl dX4_init_14 ⟨by decide, by decide⟩ hf (fun h1 hf => ?_)
    refine z_putF C fl_X4_9 rfl (fun _ _ _ e => by cases e; rfl) dX4_init_17 rfl rfl hf (fun h2 hf => ?_)
    refine z_aload_n C dX4_init_20 0 rfl rfl ?_
    refine z_newf (kc' := 35) (ks' := 1514) C ni_X4_15 rfl dX4_init_21 ⟨by decide, by decide⟩ hf (fun h3 hf => ?_)
    refine z_dup C dX4_init_24 rfl ?_
    refine z_iload_n C dX4_init_25 1 rfl rfl ?_
    obtain ⟨i5, h6, g4, hf⟩ := zbind2 hf
    refine z_callI (kc' := 34) (ks' := 1512) C (MX1_init (xl X) (xD X) (xT X) (xlo X) (hi + 2) g4) cw_X4_17 mw_48 mw_209 mw_74 rfl ys_X1_init dX4_init_26 rfl (by decide) ⟨by decide, by decide⟩ (Nat.le_of_ble_eq_true rfl) (st := [.ref (hi + 1), .ref a0]) rfl ?_
    refine z_putF C fl_X4_20 rfl (fun _ _ _ e => by cases e; rfl) dX4_init_29 rfl rfl hf (fun h7 hf => ?_)
    refine z_iconst C (v := 0) dX4_init_32 (by decide) ?_
    refine z_istore_n C dX4_init_33 rfl (by decide) (lv' := [(2, .int 0), (0, .ref a0), (1, .int 2)]) rfl ?_
    refine z_iload_n C dX4_init_34 0 rfl rfl ?_
    refine z_aload_n C dX4_init_35 1 rfl rfl ?_
    refine z_getR C fl_X4_9 dX4_init_36 hf (fun x8 hf => ?_)
    refine z_alen C dX4_init_39 hf (fun x9 hf => ?_)
    refine z_icmp_ge (tgt := 62) C dX4_init_40 (by decide) hf (fun hf => ?_) (fun hf => ?_)
    · exact z_vreturn C dX4_init_62 (by cases hf; rfl)
    · refine z_aload_n C dX4_init_43 1 rfl rfl ?_
      refine z_getR C fl_X4_9 dX4_init_44 hf (fun x10 hf => ?_)
      refine z_iload_n C dX4_init_47 0 rfl rfl ?_
      refine z_newf (kc' := 33) (ks' := 1500) C ni_X4_7 rfl dX4_init_48 ⟨by decide, by decide⟩ hf (fun h11 hf => ?_)
      refine z_dup C dX4_init_51 rfl ?_
      obtain ⟨i13, h14, g12, hf⟩ := zbind2 hf
      refine z_callI (kc' := 17) (ks' := 757) C (MX3_init (xl X) (xD X) (xT X) (xlo X) (i5 + 1) g12) cw_X4_24 mw_50 mw_210 mw_113 rfl ys_X3_init dX4_init_52 rfl (by decide) ⟨by decide, by decide⟩ (Nat.le_of_ble_eq_true rfl) (st := [.ref i5, .int 0, .ref x10]) rfl ?_
      refine z_aastore C dX4_init_55 hf (fun h15 hf => ?_)
      refine z_iinc C dX4_init_56 (k := 0) (d := 1) rfl (by decide) (by decide) (lv' := [(2, .int (0 + 1)), (0, .ref a0), (1, .int 2)]) rfl ?_
      refine z_goto (tgt := 34) C dX4_init_59 (by decide) ?_
      refine z_iload_n C dX4_init_34 0 rfl rfl ?_
      refine z_aload_n C dX4_init_35 1 rfl rfl ?_
      refine z_getR C fl_X4_9 dX4_init_36 hf (fun x16 hf => ?_)
      refine z_alen C dX4_init_39 hf (fun x17 hf => ?_)
      refine z_icmp_ge (tgt := 62) C dX4_init_40 (by decide) hf (fun hf => ?_) (fun hf => ?_)
      · exact z_vreturn C dX4_init_62 (by cases hf; rfl)
      · refine z_aload_n C dX4_init_43 1 rfl rfl ?_
        refine z_getR C fl_X4_9 dX4_init_44 hf (fun x18 hf => ?_)
        refine z_iload_n C dX4_init_47 0 rfl rfl ?_
        refine z_newf (kc' := 16) (ks' := 745) C ni_X4_7 rfl dX4_init_48 ⟨by decide, by decide⟩ hf (fun h19 hf => ?_)
        refine z_dup C dX4_init_51 rfl ?_
        obtain ⟨i21, h22, g20, hf⟩ := zbind2 hf
        refine z_callI (kc' := 0) (ks' := 2) C (MX3_init (xl X) (xD X) (xT X) (xlo X) (i13 + 1) g20) cw_X4_24 mw_50 mw_210 mw_113 rfl ys_X3_init dX4_init_52 rfl (by decide) ⟨by decide, by decide⟩ (Nat.le_of_ble_eq_true rfl) (st := [.ref i13, .int (0 + 1), .ref x18]) rfl ?_
        refine z_aastore C dX4_init_55 hf (fun h23 hf => ?_)
        refine z_iinc C dX4_init_56 (k := 0) (d := 1) rfl (by decide) (by decide) (lv' := [(2, .int ((0 + 1) + 1)), (0, .ref a0), (1, .int 2)]) rfl ?_
        refine z_goto (tgt := 34) C dX4_init_59 (by decide) ?_
        refine z_iload_n C dX4_init_34 0 rfl rfl ?_
        refine z_aload_n C dX4_init_35 1 rfl rfl ?_
        refine z_getR C fl_X4_9 dX4_init_36 hf (fun x24 hf => ?_)
        refine z_alen C dX4_init_39 hf (fun x25 hf => ?_)
        refine z_icmp_ge (tgt := 62) C dX4_init_40 (by decide) hf (fun hf => ?_) (fun hf => ?_)
        · exact z_vreturn C dX4_init_62 (by cases hf; rfl)
        · exact nomatch hf
  · refine z_iload_n C dX4_init_9 1 rfl rfl ?_
    refine z_goto (tgt := 14) C dX4_init_10 (by decide) ?_
    refine z_anewarray (kc' := 36) (ks' := 1513) C mw_206 rfl dX4_init_14 ⟨by decide, by decide⟩ hf (fun h26 hf => ?_)
    refine z_putF C fl_X4_9 rfl (fun _ _ _ e => by cases e; rfl) dX4_init_17 rfl rfl hf (fun h27 hf => ?_)
    refine z_aload_n C dX4_init_20 0 rfl rfl ?_
    refine z_newf (kc' := 35) (ks' := 1512) C ni_X4_15 rfl dX4_init_21 ⟨by decide, by decide⟩ hf (fun h28 hf => ?_)
    refine z_dup C dX4_init_24 rfl ?_
    refine z_iload_n C dX4_init_25 1 rfl rfl ?_
    obtain ⟨i30, h31, g29, hf⟩ := zbind2 hf
    refine z_callI (kc' := 34) (ks' := 1510) C (MX1_init (xl X) (xD X) (xT X) (xlo X) (hi + 2) g29) cw_X4_17 mw_48 mw_209 mw_74 rfl ys_X1_init dX4_init_26 rfl (by decide) ⟨by decide, by decide⟩ (Nat.le_of_ble_eq_true rfl) (st := [.ref (hi + 1), .ref a0]) rfl ?_
    refine z_putF C fl_X4_20 rfl (fun _ _ _ e => by cases e; rfl) dX4_init_29 rfl rfl hf (fun h32 hf => ?_)
    refine z_iconst C (v := 0) dX4_init_32 (by decide) ?_
    refine z_istore_n C dX4_init_33 rfl (by decide) (lv' := [(2, .int 0), (0, .ref a0), (1, .int 2)]) rfl ?_
    refine z_iload_n C dX4_init_34 0 rfl rfl ?_
    refine z_aload_n C dX4_init_35 1 rfl rfl ?_
    refine z_getR C fl_X4_9 dX4_init_36 hf (fun x33 hf => ?_)
    refine z_alen C dX4_init_39 hf (fun x34 hf => ?_)
    refine z_icmp_ge (tgt := 62) C dX4_init_40 (by decide) hf (fun hf => ?_) (fun hf => ?_)
    · exact z_vreturn C dX4_init_62 (by cases hf; rfl)
    · refine z_aload_n C dX4_init_43 1 rfl rfl ?_
      refine z_getR C fl_X4_9 dX4_init_44 hf (fun x35 hf => ?_)
      refine z_iload_n C dX4_init_47 0 rfl rfl ?_
      refine z_newf (kc' := 33) (ks' := 1498) C ni_X4_7 rfl dX4_init_48 ⟨by decide, by decide⟩ hf (fun h36 hf => ?_)
      refine z_dup C dX4_init_51 rfl ?_
      obtain ⟨i38, h39, g37, hf⟩ := zbind2 hf
      refine z_callI (kc' := 17) (ks' := 755) C (MX3_init (xl X) (xD X) (xT X) (xlo X) (i30 + 1) g37) cw_X4_24 mw_50 mw_210 mw_113 rfl ys_X3_init dX4_init_52 rfl (by decide) ⟨by decide, by decide⟩ (Nat.le_of_ble_eq_true rfl) (st := [.ref i30, .int 0, .ref x35]) rfl ?_
      refine z_aastore C dX4_init_55 hf (fun h40 hf => ?_)
      refine z_iinc C dX4_init_56 (k := 0) (d := 1) rfl (by decide) (by decide) (lv' := [(2, .int (0 + 1)), (0, .ref a0), (1, .int 2)]) rfl ?_
      refine z_goto (tgt := 34) C dX4_init_59 (by decide) ?_
      refine z_iload_n C dX4_init_34 0 rfl rfl ?_
      refine z_aload_n C dX4_init_35 1 rfl rfl ?_
      refine z_getR C fl_X4_9 dX4_init_36 hf (fun x41 hf => ?_)
      refine z_alen C dX4_init_39 hf (fun x42 hf => ?_)
      refine z_icmp_ge (tgt := 62) C dX4_init_40 (by decide) hf (fun hf => ?_) (fun hf => ?_)
      · exact z_vreturn C dX4_init_62 (by cases hf; rfl)
      · refine z_aload_n C dX4_init_43 1 rfl rfl ?_
        refine z_getR C fl_X4_9 dX4_init_44 hf (fun x43 hf => ?_)
        refine z_iload_n C dX4_init_47 0 rfl rfl ?_
        refine z_newf (kc' := 16) (ks' := 743) C ni_X4_7 rfl dX4_init_48 ⟨by decide, by decide⟩ hf (fun h44 hf => ?_)
        refine z_dup C dX4_init_51 rfl ?_
        obtain ⟨i46, h47, g45, hf⟩ := zbind2 hf
        refine z_callI (kc' := 0) (ks' := 0) C (MX3_init (xl X) (xD X) (xT X) (xlo X) (i38 + 1) g45) cw_X4_24 mw_50 mw_210 mw_113 rfl ys_X3_init dX4_init_52 rfl (by decide) ⟨by decide, by decide⟩ (Nat.le_of_ble_eq_true rfl) (st := [.ref i38, .int (0 + 1), .ref x43]) rfl ?_
        refine z_aastore C dX4_init_55 hf (fun h48 hf => ?_)
        refine z_iinc C dX4_init_56 (k := 0) (d := 1) rfl (by decide) (by decide) (lv' := [(2, .int ((0 + 1) + 1)), (0, .ref a0), (1, .int 2)]) rfl ?_
        refine z_goto (tgt := 34) C dX4_init_59 (by decide) ?_
        refine z_iload_n C dX4_init_34 0 rfl rfl ?_
        refine z_aload_n C dX4_init_35 1 rfl rfl ?_
        refine z_getR C fl_X4_9 dX4_init_36 hf (fun x49 hf => ?_)
        refine z_alen C dX4_init_39 hf (fun x50 hf => ?_)
        refine z_icmp_ge (tgt := 62) C dX4_init_40 (by decide) hf (fun hf => ?_) (fun hf => ?_)
        · exact z_vreturn C dX4_init_62 (by cases hf; rfl)
        · exact nomatch hf
theorem MX4_init2 (l : Launch) (D : va_G) (T : zT) (lo : Nat) (hi : Nat) {h : zH} {a0 : Nat} {i9 : Nat} {h9 : zH} (hf : FX4_init2 T a0 hi h = some (i9, h9)) : zM l yX4_init (.code yX4_init cX4_init 3 none :: TW) ({ frames := 4, cells := 37, slots := 1515, locals := 86 } : Room) D T lo true [.ref a0, .int 2] hi h (none, i9, h9) :=
  z_enter (own := RX4) (nm := "<init>") (lv := [(0, .ref a0), (1, .int 2)]) (by decide +kernel) rfl rfl (Nat.le_of_ble_eq_true rfl) rfl (fun _ _ _ _ _ _ _ _ C => BX4_init2 C hf)
theorem OX4_init2 {T : zT} {hi : Nat} {h : zH} {a0 : Nat} {r9 : (Nat × zH)} (hf : FX4_init2 T a0 hi h = some r9) : ∃ fs, h a0 = some (.inr (4, fs)) := by
  obtain ⟨_, h1, _⟩ := zbind hf
  exact zo_obj h1
theorem dX0_init_0 : decode cX0_init 0 = .ok (.aload_n 0, 1) := by decide +kernel
theorem dX0_init_1 : decode cX0_init 1 = .ok (.invokespecial 3, 3) := by decide +kernel
theorem dX0_init_4 : decode cX0_init 4 = .ok (.aload_n 0, 1) := by decide +kernel
theorem dX0_init_5 : decode cX0_init 5 = .ok (.new 9, 3) := by decide +kernel
theorem dX0_init_8 : decode cX0_init 8 = .ok (.dup, 1) := by decide +kernel
theorem dX0_init_9 : decode cX0_init 9 = .ok (.bipush 14, 2) := by decide +kernel
theorem dX0_init_11 : decode cX0_init 11 = .ok (.invokespecial 11, 3) := by decide +kernel
theorem dX0_init_14 : decode cX0_init 14 = .ok (.putfield 14, 3) := by decide +kernel
theorem dX0_init_17 : decode cX0_init 17 = .ok (.return_, 1) := by decide +kernel
def FX0_init (T : zT) (a0 : Nat) (hi : Nat) (h : zH) : Option (Nat × zH) := (zo h a0 0).bind fun _ => (znw h hi 4 [.null, .null]).bind fun h1 => zb2 (FX4_init14 T hi (hi + 1) h1) fun i3 h4 => (zpv h4 a0 0 2 (.ref hi)).bind fun h5 => some (i3, h5)
set_option maxHeartbeats 4000000 in
set_option maxRecDepth 100000 in
theorem BX0_init {X : zX} (C : zC X cX0_init 1 RX0 "<init>" none 5 108) {hi : Nat} {h : zH} {a0 : Nat} {r9 : (Nat × zH)} (hf : FX0_init (xT X) a0 hi h = some r9) : zW X 1 (zZ X true (none, r9.1, r9.2)) 242 10601 true hi h 0 [(0, .ref a0)] [] := by
  unfold FX0_init at hf
  obtain ⟨_, _, hf⟩ := zbind hf
  refine z_aload_n C dX0_init_0 0 rfl rfl ?_
  refine z_objInit C mw_199 mw_obji mw_objc dX0_init_1 ⟨Nat.le_of_ble_eq_true rfl, Nat.le_of_ble_eq_true rfl⟩ ?_
  refine z_aload_n C dX0_init_4 0 rfl rfl ?_
  refine z_newf (kc' := 241) (ks' := 10599) C ni_X0_9 rfl dX0_init_5 ⟨by decide, by decide⟩ hf (fun h1 hf => ?_)
  refine z_dup C dX0_init_8 rfl ?_
  refine z_bipush C (v := 14) dX0_init_9 (by decide) ?_
  obtain ⟨i3, h4, g2, hf⟩ := zbind2 hf
  refine z_callI (kc' := 0) (ks' := 0) C (MX4_init14 (xl X) (xD X) (xT X) (xlo X) (hi + 1) g2) cw_X0_11 mw_52 mw_202 mw_203 rfl ys_X4_init dX0_init_11 rfl (by decide) ⟨by decide, by decide⟩ (Nat.le_of_ble_eq_true rfl) (st := [.ref hi, .ref a0]) rfl ?_
  refine z_putF C fl_X0_14 rfl (fun _ _ _ e => by cases e; rfl) dX0_init_14 rfl rfl hf (fun h5 hf => ?_)
  exact z_vreturn C dX0_init_17 (by cases hf; rfl)
theorem MX0_init (l : Launch) (D : va_G) (T : zT) (lo : Nat) (hi : Nat) {h : zH} {a0 : Nat} {i9 : Nat} {h9 : zH} (hf : FX0_init T a0 hi h = some (i9, h9)) : zM l yX0_init (.code yX0_init cX0_init 1 none :: TW) ({ frames := 5, cells := 242, slots := 10601, locals := 108 } : Room) D T lo true [.ref a0] hi h (none, i9, h9) :=
  z_enter (own := RX0) (nm := "<init>") (lv := [(0, .ref a0)]) (by decide +kernel) rfl rfl (Nat.le_of_ble_eq_true rfl) rfl (fun _ _ _ _ _ _ _ _ C => BX0_init C hf)
theorem OX0_init {T : zT} {hi : Nat} {h : zH} {a0 : Nat} {r9 : (Nat × zH)} (hf : FX0_init T a0 hi h = some r9) : ∃ fs, h a0 = some (.inr (0, fs)) := by
  obtain ⟨_, h1, _⟩ := zbind hf
  exact zo_obj h1
theorem dX6_init_0 : decode cX6_init 0 = .ok (.aload_n 0, 1) := by decide +kernel
theorem dX6_init_1 : decode cX6_init 1 = .ok (.invokespecial 3, 3) := by decide +kernel
theorem dX6_init_4 : decode cX6_init 4 = .ok (.aload_n 0, 1) := by decide +kernel
theorem dX6_init_5 : decode cX6_init 5 = .ok (.new 9, 3) := by decide +kernel
theorem dX6_init_8 : decode cX6_init 8 = .ok (.dup, 1) := by decide +kernel
theorem dX6_init_9 : decode cX6_init 9 = .ok (.bipush 120, 2) := by decide +kernel
theorem dX6_init_11 : decode cX6_init 11 = .ok (.invokespecial 11, 3) := by decide +kernel
theorem dX6_init_14 : decode cX6_init 14 = .ok (.putfield 14, 3) := by decide +kernel
theorem dX6_init_17 : decode cX6_init 17 = .ok (.aload_n 0, 1) := by decide +kernel
theorem dX6_init_18 : decode cX6_init 18 = .ok (.iconst 0, 1) := by decide +kernel
theorem dX6_init_19 : decode cX6_init 19 = .ok (.putfield 18, 3) := by decide +kernel
theorem dX6_init_22 : decode cX6_init 22 = .ok (.aload_n 0, 1) := by decide +kernel
theorem dX6_init_23 : decode cX6_init 23 = .ok (.new 22, 3) := by decide +kernel
theorem dX6_init_26 : decode cX6_init 26 = .ok (.dup, 1) := by decide +kernel
theorem dX6_init_27 : decode cX6_init 27 = .ok (.invokespecial 24, 3) := by decide +kernel
theorem dX6_init_30 : decode cX6_init 30 = .ok (.putfield 25, 3) := by decide +kernel
theorem dX6_init_33 : decode cX6_init 33 = .ok (.aload_n 0, 1) := by decide +kernel
theorem dX6_init_34 : decode cX6_init 34 = .ok (.new 29, 3) := by decide +kernel
theorem dX6_init_37 : decode cX6_init 37 = .ok (.dup, 1) := by decide +kernel
theorem dX6_init_38 : decode cX6_init 38 = .ok (.invokespecial 31, 3) := by decide +kernel
theorem dX6_init_41 : decode cX6_init 41 = .ok (.putfield 32, 3) := by decide +kernel
theorem dX6_init_44 : decode cX6_init 44 = .ok (.aload_n 0, 1) := by decide +kernel
theorem dX6_init_45 : decode cX6_init 45 = .ok (.new 29, 3) := by decide +kernel
theorem dX6_init_48 : decode cX6_init 48 = .ok (.dup, 1) := by decide +kernel
theorem dX6_init_49 : decode cX6_init 49 = .ok (.invokespecial 31, 3) := by decide +kernel
theorem dX6_init_52 : decode cX6_init 52 = .ok (.putfield 36, 3) := by decide +kernel
theorem dX6_init_55 : decode cX6_init 55 = .ok (.aload_n 0, 1) := by decide +kernel
theorem dX6_init_56 : decode cX6_init 56 = .ok (.new 29, 3) := by decide +kernel
theorem dX6_init_59 : decode cX6_init 59 = .ok (.dup, 1) := by decide +kernel
theorem dX6_init_60 : decode cX6_init 60 = .ok (.invokespecial 31, 3) := by decide +kernel
theorem dX6_init_63 : decode cX6_init 63 = .ok (.putfield 39, 3) := by decide +kernel
theorem dX6_init_66 : decode cX6_init 66 = .ok (.aload_n 0, 1) := by decide +kernel
theorem dX6_init_67 : decode cX6_init 67 = .ok (.new 42, 3) := by decide +kernel
theorem dX6_init_70 : decode cX6_init 70 = .ok (.dup, 1) := by decide +kernel
theorem dX6_init_71 : decode cX6_init 71 = .ok (.invokespecial 44, 3) := by decide +kernel
theorem dX6_init_74 : decode cX6_init 74 = .ok (.putfield 45, 3) := by decide +kernel
theorem dX6_init_77 : decode cX6_init 77 = .ok (.aload_n 0, 1) := by decide +kernel
theorem dX6_init_78 : decode cX6_init 78 = .ok (.new 49, 3) := by decide +kernel
theorem dX6_init_81 : decode cX6_init 81 = .ok (.dup, 1) := by decide +kernel
theorem dX6_init_82 : decode cX6_init 82 = .ok (.iconst 2, 1) := by decide +kernel
theorem dX6_init_83 : decode cX6_init 83 = .ok (.invokespecial 51, 3) := by decide +kernel
theorem dX6_init_86 : decode cX6_init 86 = .ok (.putfield 52, 3) := by decide +kernel
theorem dX6_init_89 : decode cX6_init 89 = .ok (.aload_n 0, 1) := by decide +kernel
theorem dX6_init_90 : decode cX6_init 90 = .ok (.new 56, 3) := by decide +kernel
theorem dX6_init_93 : decode cX6_init 93 = .ok (.dup, 1) := by decide +kernel
theorem dX6_init_94 : decode cX6_init 94 = .ok (.invokespecial 58, 3) := by decide +kernel
theorem dX6_init_97 : decode cX6_init 97 = .ok (.putfield 59, 3) := by decide +kernel
theorem dX6_init_100 : decode cX6_init 100 = .ok (.aload_n 0, 1) := by decide +kernel
theorem dX6_init_101 : decode cX6_init 101 = .ok (.new 56, 3) := by decide +kernel
theorem dX6_init_104 : decode cX6_init 104 = .ok (.dup, 1) := by decide +kernel
theorem dX6_init_105 : decode cX6_init 105 = .ok (.invokespecial 58, 3) := by decide +kernel
theorem dX6_init_108 : decode cX6_init 108 = .ok (.putfield 63, 3) := by decide +kernel
theorem dX6_init_111 : decode cX6_init 111 = .ok (.aload_n 0, 1) := by decide +kernel
theorem dX6_init_112 : decode cX6_init 112 = .ok (.new 9, 3) := by decide +kernel
theorem dX6_init_115 : decode cX6_init 115 = .ok (.dup, 1) := by decide +kernel
theorem dX6_init_116 : decode cX6_init 116 = .ok (.bipush 8, 2) := by decide +kernel
theorem dX6_init_118 : decode cX6_init 118 = .ok (.invokespecial 11, 3) := by decide +kernel
theorem dX6_init_121 : decode cX6_init 121 = .ok (.putfield 66, 3) := by decide +kernel
theorem dX6_init_124 : decode cX6_init 124 = .ok (.aload_n 0, 1) := by decide +kernel
theorem dX6_init_125 : decode cX6_init 125 = .ok (.new 9, 3) := by decide +kernel
theorem dX6_init_128 : decode cX6_init 128 = .ok (.dup, 1) := by decide +kernel
theorem dX6_init_129 : decode cX6_init 129 = .ok (.iconst 3, 1) := by decide +kernel
theorem dX6_init_130 : decode cX6_init 130 = .ok (.invokespecial 11, 3) := by decide +kernel
theorem dX6_init_133 : decode cX6_init 133 = .ok (.putfield 69, 3) := by decide +kernel
theorem dX6_init_136 : decode cX6_init 136 = .ok (.return_, 1) := by decide +kernel
def FX6_init (T : zT) (a0 : Nat) (hi : Nat) (h : zH) : Option (Nat × zH) := (zo h a0 6).bind fun _ => (znw h hi 1 [.null]).bind fun h1 => zb2 (FX1_init T hi 120 (hi + 1) h1) fun i3 h4 => (zpv h4 a0 6 0 (.ref hi)).bind fun h5 => (zpv h5 a0 6 1 (.int 0)).bind fun h6 => (znw h6 i3 5 [.int 0, .int 0, .int 0, .int 0, .int 0, .int 0, .int 0]).bind fun h7 => (FX5_init T i3 h7).bind fun _ => (zpv h7 a0 6 2 (.ref i3)).bind fun h9 => (znw h9 (i3 + 1) 3 [.int 0, .int 0, .int 0, .int 0, .null, .null, .null, .null, .null, .null, .null, .null]).bind fun h10 => zb2 (FX3_init T (i3 + 1) (i3 + 2) h10) fun i12 h13 => (zpv h13 a0 6 3 (.ref (i3 + 1))).bind fun h14 => (znw h14 i12 3 [.int 0, .int 0, .int 0, .int 0, .null, .null, .null, .null, .null, .null, .null, .null]).bind fun h15 => zb2 (FX3_init T i12 (i12 + 1) h15) fun i17 h18 => (zpv h18 a0 6 4 (.ref i12)).bind fun h19 => (znw h19 i17 3 [.int 0, .int 0, .int 0, .int 0, .null, .null, .null, .null, .null, .null, .null, .null]).bind fun h20 => zb2 (FX3_init T i17 (i17 + 1) h20) fun i22 h23 => (zpv h23 a0 6 5 (.ref i17)).bind fun h24 => (znw h24 i22 0 [.int 0, .int 0, .null]).bind fun h25 => zb2 (FX0_init T i22 (i22 + 1) h25) fun i27 h28 => (zpv h28 a0 6 6 (.ref i22)).bind fun h29 => (znw h29 i27 4 [.null, .null]).bind fun h30 => zb2 (FX4_init2 T i27 (i27 + 1) h30) fun i32 h33 => (zpv h33 a0 6 7 (.ref i27)).bind fun h34 => (znw h34 i32 2 [.int 0, .int 0, .null, .null, .null, .int 0, .int 0, .int 0, .int 0]).bind fun h35 => zb2 (FX2_init T i32 (i32 + 1) h35) fun i37 h38 => (zpv h38 a0 6 8 (.ref i32)).bind fun h39 => (znw h39 i37 2 [.int 0, .int 0, .null, .null, .null, .int 0, .int 0, .int 0, .int 0]).bind fun h40 => zb2 (FX2_init T i37 (i37 + 1) h40) fun i42 h43 => (zpv h43 a0 6 9 (.ref i37)).bind fun h44 => (znw h44 i42 1 [.null]).bind fun h45 => zb2 (FX1_init T i42 8 (i42 + 1) h45) fun i47 h48 => (zpv h48 a0 6 10 (.ref i42)).bind fun h49 => (znw h49 i47 1 [.null]).bind fun h50 => zb2 (FX1_init T i47 3 (i47 + 1) h50) fun i52 h53 => (zpv h53 a0 6 11 (.ref i47)).bind fun h54 => some (i52, h54)
set_option maxHeartbeats 4000000 in
set_option maxRecDepth 100000 in
theorem BX6_init {X : zX} (C : zC X cX6_init 1 RX6 "<init>" none 6 128) {hi : Nat} {h : zH} {a0 : Nat} {r9 : (Nat × zH)} (hf : FX6_init (xT X) a0 hi h = some r9) : zW X 1 (zZ X true (none, r9.1, r9.2)) 353 15037 true hi h 0 [(0, .ref a0)] [] := by
  unfold FX6_init at hf
  obtain ⟨_, _, hf⟩ := zbind hf
  refine z_aload_n C dX6_init_0 0 rfl rfl ?_
  refine z_objInit C mw_68 mw_obji mw_objc dX6_init_1 ⟨Nat.le_of_ble_eq_true rfl, Nat.le_of_ble_eq_true rfl⟩ ?_
  refine z_aload_n C dX6_init_4 0 rfl rfl ?_
  refine z_newf (kc' := 352) (ks' := 15036) C ni_X6_9 rfl dX6_init_5 ⟨by decide, by decide⟩ hf (fun h1 hf => ?_)
  refine z_dup C dX6_init_8 rfl ?_
  refine z_bipush C (v := 120) dX6_init_9 (by decide) ?_
  obtain ⟨i3, h4, g2, hf⟩ := zbind2 hf
  refine z_callI (kc' := 351) (ks' := 14916) C (MX1_init (xl X) (xD X) (xT X) (xlo X) (hi + 1) g2) cw_X6_11 mw_48 mw_73 mw_74 rfl ys_X1_init dX6_init_11 rfl (by decide) ⟨by decide, by decide⟩ (Nat.le_of_ble_eq_true rfl) (st := [.ref hi, .ref a0]) rfl ?_
  refine z_putF C fl_X6_14 rfl (fun _ _ _ e => by cases e; rfl) dX6_init_14 rfl rfl hf (fun h5 hf => ?_)
  refine z_aload_n C dX6_init_17 0 rfl rfl ?_
  refine z_iconst C (v := 0) dX6_init_18 (by decide) ?_
  refine z_put C fl_X6_18 dX6_init_19 rfl rfl hf (fun h6 hf => ?_)
  refine z_aload_n C dX6_init_22 0 rfl rfl ?_
  refine z_newf (kc' := 350) (ks' := 14909) C ni_X6_22 rfl dX6_init_23 ⟨by decide, by decide⟩ hf (fun h7 hf => ?_)
  refine z_dup C dX6_init_26 rfl ?_
  obtain ⟨_, g8, hf⟩ := zbind hf
  refine z_callIN (kc' := 350) (ks' := 14909) C (MX5_init (xl X) (xD X) (xT X) (xlo X) true (i3 + 1) g8) cw_X6_24 mw_49 nw_X6_24 mw_85 rfl ys_X5_init dX6_init_27 rfl (by decide) ⟨by decide, by decide⟩ (Nat.le_of_ble_eq_true rfl) (st := [.ref i3, .ref a0]) rfl ?_
  refine z_putF C fl_X6_25 rfl (fun _ _ _ e => by cases e; rfl) dX6_init_30 rfl rfl hf (fun h9 hf => ?_)
  refine z_aload_n C dX6_init_33 0 rfl rfl ?_
  refine z_newf (kc' := 349) (ks' := 14897) C ni_X6_29 rfl dX6_init_34 ⟨by decide, by decide⟩ hf (fun h10 hf => ?_)
  refine z_dup C dX6_init_37 rfl ?_
  obtain ⟨i12, h13, g11, hf⟩ := zbind2 hf
  refine z_callI (kc' := 333) (ks' := 14154) C (MX3_init (xl X) (xD X) (xT X) (xlo X) (i3 + 2) g11) cw_X6_31 mw_50 mw_112 mw_113 rfl ys_X3_init dX6_init_38 rfl (by decide) ⟨by decide, by decide⟩ (Nat.le_of_ble_eq_true rfl) (st := [.ref (i3 + 1), .ref a0]) rfl ?_
  refine z_putF C fl_X6_32 rfl (fun _ _ _ e => by cases e; rfl) dX6_init_41 rfl rfl hf (fun h14 hf => ?_)
  refine z_aload_n C dX6_init_44 0 rfl rfl ?_
  refine z_newf (kc' := 332) (ks' := 14142) C ni_X6_29 rfl dX6_init_45 ⟨by decide, by decide⟩ hf (fun h15 hf => ?_)
  refine z_dup C dX6_init_48 rfl ?_
  obtain ⟨i17, h18, g16, hf⟩ := zbind2 hf
  refine z_callI (kc' := 316) (ks' := 13399) C (MX3_init (xl X) (xD X) (xT X) (xlo X) (i12 + 1) g16) cw_X6_31 mw_50 mw_112 mw_113 rfl ys_X3_init dX6_init_49 rfl (by decide) ⟨by decide, by decide⟩ (Nat.le_of_ble_eq_true rfl) (st := [.ref i12, .ref a0]) rfl ?_
  refine z_putF C fl_X6_36 rfl (fun _ _ _ e => by cases e; rfl) dX6_init_52 rfl rfl hf (fun h19 hf => ?_)
  refine z_aload_n C dX6_init_55 0 rfl rfl ?_
  refine z_newf (kc' := 315) (ks' := 13387) C ni_X6_29 rfl dX6_init_56 ⟨by decide, by decide⟩ hf (fun h20 hf => ?_)
  refine z_dup C dX6_init_59 rfl ?_
  obtain ⟨i22, h23, g21, hf⟩ := zbind2 hf
  refine z_callI (kc' := 299) (ks' := 12644) C (MX3_init (xl X) (xD X) (xT X) (xlo X) (i17 + 1) g21) cw_X6_31 mw_50 mw_112 mw_113 rfl ys_X3_init dX6_init_60 rfl (by decide) ⟨by decide, by decide⟩ (Nat.le_of_ble_eq_true rfl) (st := [.ref i17, .ref a0]) rfl ?_
  refine z_putF C fl_X6_39 rfl (fun _ _ _ e => by cases e; rfl) dX6_init_63 rfl rfl hf (fun h24 hf => ?_)
  refine z_aload_n C dX6_init_66 0 rfl rfl ?_
  refine z_newf (kc' := 298) (ks' := 12641) C ni_X6_42 rfl dX6_init_67 ⟨by decide, by decide⟩ hf (fun h25 hf => ?_)
  refine z_dup C dX6_init_70 rfl ?_
  obtain ⟨i27, h28, g26, hf⟩ := zbind2 hf
  refine z_callIN (kc' := 56) (ks' := 2040) C (MX0_init (xl X) (xD X) (xT X) (xlo X) (i22 + 1) g26) cw_X6_44 mw_51 nw_X6_44 mw_197 rfl ys_X0_init dX6_init_71 rfl (by decide) ⟨by decide, by decide⟩ (Nat.le_of_ble_eq_true rfl) (st := [.ref i22, .ref a0]) rfl ?_
  refine z_putF C fl_X6_45 rfl (fun _ _ _ e => by cases e; rfl) dX6_init_74 rfl rfl hf (fun h29 hf => ?_)
  refine z_aload_n C dX6_init_77 0 rfl rfl ?_
  refine z_newf (kc' := 55) (ks' := 2038) C ni_X6_49 rfl dX6_init_78 ⟨by decide, by decide⟩ hf (fun h30 hf => ?_)
  refine z_dup C dX6_init_81 rfl ?_
  refine z_iconst C (v := 2) dX6_init_82 (by decide) ?_
  obtain ⟨i32, h33, g31, hf⟩ := zbind2 hf
  refine z_callI (kc' := 18) (ks' := 523) C (MX4_init2 (xl X) (xD X) (xT X) (xlo X) (i27 + 1) g31) cw_X6_51 mw_52 mw_230 mw_203 rfl ys_X4_init dX6_init_83 rfl (by decide) ⟨by decide, by decide⟩ (Nat.le_of_ble_eq_true rfl) (st := [.ref i27, .ref a0]) rfl ?_
  refine z_putF C fl_X6_52 rfl (fun _ _ _ e => by cases e; rfl) dX6_init_86 rfl rfl hf (fun h34 hf => ?_)
  refine z_aload_n C dX6_init_89 0 rfl rfl ?_
  refine z_newf (kc' := 17) (ks' := 514) C ni_X6_56 rfl dX6_init_90 ⟨by decide, by decide⟩ hf (fun h35 hf => ?_)
  refine z_dup C dX6_init_93 rfl ?_
  obtain ⟨i37, h38, g36, hf⟩ := zbind2 hf
  refine z_callIN (kc' := 11) (ks' := 268) C (MX2_init (xl X) (xD X) (xT X) (xlo X) (i32 + 1) g36) cw_X6_58 mw_53 nw_X6_58 mw_234 rfl ys_X2_init dX6_init_94 rfl (by decide) ⟨by decide, by decide⟩ (Nat.le_of_ble_eq_true rfl) (st := [.ref i32, .ref a0]) rfl ?_
  refine z_putF C fl_X6_59 rfl (fun _ _ _ e => by cases e; rfl) dX6_init_97 rfl rfl hf (fun h39 hf => ?_)
  refine z_aload_n C dX6_init_100 0 rfl rfl ?_
  refine z_newf (kc' := 10) (ks' := 259) C ni_X6_56 rfl dX6_init_101 ⟨by decide, by decide⟩ hf (fun h40 hf => ?_)
  refine z_dup C dX6_init_104 rfl ?_
  obtain ⟨i42, h43, g41, hf⟩ := zbind2 hf
  refine z_callIN (kc' := 4) (ks' := 13) C (MX2_init (xl X) (xD X) (xT X) (xlo X) (i37 + 1) g41) cw_X6_58 mw_53 nw_X6_58 mw_234 rfl ys_X2_init dX6_init_105 rfl (by decide) ⟨by decide, by decide⟩ (Nat.le_of_ble_eq_true rfl) (st := [.ref i37, .ref a0]) rfl ?_
  refine z_putF C fl_X6_63 rfl (fun _ _ _ e => by cases e; rfl) dX6_init_108 rfl rfl hf (fun h44 hf => ?_)
  refine z_aload_n C dX6_init_111 0 rfl rfl ?_
  refine z_newf (kc' := 3) (ks' := 12) C ni_X6_9 rfl dX6_init_112 ⟨by decide, by decide⟩ hf (fun h45 hf => ?_)
  refine z_dup C dX6_init_115 rfl ?_
  refine z_bipush C (v := 8) dX6_init_116 (by decide) ?_
  obtain ⟨i47, h48, g46, hf⟩ := zbind2 hf
  refine z_callI (kc' := 2) (ks' := 4) C (MX1_init (xl X) (xD X) (xT X) (xlo X) (i42 + 1) g46) cw_X6_11 mw_48 mw_73 mw_74 rfl ys_X1_init dX6_init_118 rfl (by decide) ⟨by decide, by decide⟩ (Nat.le_of_ble_eq_true rfl) (st := [.ref i42, .ref a0]) rfl ?_
  refine z_putF C fl_X6_66 rfl (fun _ _ _ e => by cases e; rfl) dX6_init_121 rfl rfl hf (fun h49 hf => ?_)
  refine z_aload_n C dX6_init_124 0 rfl rfl ?_
  refine z_newf (kc' := 1) (ks' := 3) C ni_X6_9 rfl dX6_init_125 ⟨by decide, by decide⟩ hf (fun h50 hf => ?_)
  refine z_dup C dX6_init_128 rfl ?_
  refine z_iconst C (v := 3) dX6_init_129 (by decide) ?_
  obtain ⟨i52, h53, g51, hf⟩ := zbind2 hf
  refine z_callI (kc' := 0) (ks' := 0) C (MX1_init (xl X) (xD X) (xT X) (xlo X) (i47 + 1) g51) cw_X6_11 mw_48 mw_73 mw_74 rfl ys_X1_init dX6_init_130 rfl (by decide) ⟨by decide, by decide⟩ (Nat.le_of_ble_eq_true rfl) (st := [.ref i47, .ref a0]) rfl ?_
  refine z_putF C fl_X6_69 rfl (fun _ _ _ e => by cases e; rfl) dX6_init_133 rfl rfl hf (fun h54 hf => ?_)
  exact z_vreturn C dX6_init_136 (by cases hf; rfl)
theorem MX6_init (l : Launch) (D : va_G) (T : zT) (lo : Nat) (hi : Nat) {h : zH} {a0 : Nat} {i9 : Nat} {h9 : zH} (hf : FX6_init T a0 hi h = some (i9, h9)) : zM l yX6_init (.code yX6_init cX6_init 1 none :: TW) ({ frames := 6, cells := 353, slots := 15037, locals := 128 } : Room) D T lo true [.ref a0] hi h (none, i9, h9) :=
  z_enter (own := RX6) (nm := "<init>") (lv := [(0, .ref a0)]) (by decide +kernel) rfl rfl (Nat.le_of_ble_eq_true rfl) rfl (fun _ _ _ _ _ _ _ _ C => BX6_init C hf)
theorem OX6_init {T : zT} {hi : Nat} {h : zH} {a0 : Nat} {r9 : (Nat × zH)} (hf : FX6_init T a0 hi h = some r9) : ∃ fs, h a0 = some (.inr (6, fs)) := by
  obtain ⟨_, h1, _⟩ := zbind hf
  exact zo_obj h1
