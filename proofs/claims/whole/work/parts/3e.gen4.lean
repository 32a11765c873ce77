theorem mw_45 : (Jvm.Cond.selects "CrossedSheetModel" ({ cls := "CrossedSheetModel", name := "does", desc := "(IIIII)Z" } : Jvm.MethodName) ({ cls := "CrossedSheetModel", name := "does", desc := "(IIIII)Z" } : Jvm.MethodName)) ∈ TW := TWm 45 (by decide +kernel) (by decide +kernel)
theorem mw_990 : (Jvm.Cond.fieldLink "CrossedSheetModel" (28 : Nat) "CrossedSheetModel" "kept" "[I") ∈ TW := TWm 990 (by decide +kernel) (by decide +kernel)
theorem mw_1309 : (Jvm.Cond.constantLong "CrossedSheetModel" (246 : Nat) (100000 : Int64)) ∈ TW := TWm 1309 (by decide +kernel) (by decide +kernel)
theorem mw_1310 : (Jvm.Cond.constantLong "CrossedSheetModel" (248 : Nat) (10000000000 : Int64)) ∈ TW := TWm 1310 (by decide +kernel) (by decide +kernel)
theorem mw_1311 : (Jvm.Cond.constantLong "CrossedSheetModel" (250 : Nat) (1000000000000000 : Int64)) ∈ TW := TWm 1311 (by decide +kernel) (by decide +kernel)
theorem mw_1312 : (Jvm.Cond.methodLink "CrossedSheetModel" (252 : Nat) ({ cls := "CrossedSheetModel", name := "does", desc := "(IIIII)Z" } : Jvm.MethodName)) ∈ TW := TWm 1312 (by decide +kernel) (by decide +kernel)
theorem mw_1314 : (Jvm.Cond.instanceMethod ({ cls := "CrossedSheetModel", name := "does", desc := "(IIIII)Z" } : Jvm.MethodName)) ∈ TW := TWm 1314 (by decide +kernel) (by decide +kernel)
theorem mw_1315 : (Jvm.Cond.code ({ cls := "CrossedSheetModel", name := "does", desc := "(IIIII)Z" } : Jvm.MethodName) prog_9_method_73_code (9 : Nat) (Option.some Jvm.ClassFile.FieldType.boolean)) ∈ TW := TWm 1315 (by decide +kernel) (by decide +kernel)
theorem mw_1320 : (Jvm.Cond.constantLong "CrossedSheetModel" (256 : Nat) (99 : Int64)) ∈ TW := TWm 1320 (by decide +kernel) (by decide +kernel)
theorem mw_1321 : (Jvm.Cond.constantLong "CrossedSheetModel" (258 : Nat) (6364136223846793005 : Int64)) ∈ TW := TWm 1321 (by decide +kernel) (by decide +kernel)
theorem mw_1322 : (Jvm.Cond.constantLong "CrossedSheetModel" (260 : Nat) (1442695040888963407 : Int64)) ∈ TW := TWm 1322 (by decide +kernel) (by decide +kernel)
theorem mw_1323 : (Jvm.Cond.constant "CrossedSheetModel" (262 : Nat) (65536 : Int32)) ∈ TW := TWm 1323 (by decide +kernel) (by decide +kernel)
theorem fl_X7_28 : zF RX7 28 7 10 (.array .int) true := ⟨RX7, TX7, 19, tyX7, rfl, inTX7, by decide, mw_990, by decide +kernel, tyX7_ok, nmX7, rfl⟩
theorem yv_X7_does : yX7_does.cls = RX7 ∧ yX7_does.cls ≠ "java/lang/invoke/MethodHandle" ∧ yX7_does.cls ≠ "java/lang/invoke/VarHandle" ∧ (parseMethodDescriptor yX7_does.desc).map (fun d => d.parameters.length) = some 5 := by decide +kernel
theorem cw_X7_252 : GoodIn TW (wsV RX7 252 RX7 yX7_does (.code yX7_does cX7_does 9 (some .boolean) :: TW)) := zGV mw_1312 mw_1314 mw_45 mw_54 mw_1315
theorem dX7_runScript_0 : decode cX7_runScript 0 = .ok (.iload_n 1, 1) := by decide +kernel
theorem dX7_runScript_1 : decode cX7_runScript 1 = .ok (.iconst 1, 1) := by decide +kernel
theorem dX7_runScript_2 : decode cX7_runScript 2 = .ok (.if_icmp .ne 9, 3) := by decide +kernel
theorem dX7_runScript_5 : decode cX7_runScript 5 = .ok (.ldc2_w 246, 3) := by decide +kernel
theorem dX7_runScript_8 : decode cX7_runScript 8 = .ok (.goto 17, 3) := by decide +kernel
theorem dX7_runScript_11 : decode cX7_runScript 11 = .ok (.iload_n 1, 1) := by decide +kernel
theorem dX7_runScript_12 : decode cX7_runScript 12 = .ok (.iconst 2, 1) := by decide +kernel
theorem dX7_runScript_13 : decode cX7_runScript 13 = .ok (.if_icmp .ne 9, 3) := by decide +kernel
theorem dX7_runScript_16 : decode cX7_runScript 16 = .ok (.ldc2_w 248, 3) := by decide +kernel
theorem dX7_runScript_19 : decode cX7_runScript 19 = .ok (.goto 6, 3) := by decide +kernel
theorem dX7_runScript_22 : decode cX7_runScript 22 = .ok (.ldc2_w 250, 3) := by decide +kernel
theorem dX7_runScript_25 : decode cX7_runScript 25 = .ok (.lstore 4, 2) := by decide +kernel
theorem dX7_runScript_27 : decode cX7_runScript 27 = .ok (.aload_n 0, 1) := by decide +kernel
theorem dX7_runScript_28 : decode cX7_runScript 28 = .ok (.iload_n 1, 1) := by decide +kernel
theorem dX7_runScript_29 : decode cX7_runScript 29 = .ok (.i2l, 1) := by decide +kernel
theorem dX7_runScript_30 : decode cX7_runScript 30 = .ok (.lconst 1, 1) := by decide +kernel
theorem dX7_runScript_31 : decode cX7_runScript 31 = .ok (.ldc2_w 202, 3) := by decide +kernel
theorem dX7_runScript_34 : decode cX7_runScript 34 = .ok (.invokestatic 58, 3) := by decide +kernel
theorem dX7_runScript_37 : decode cX7_runScript 37 = .ok (.ifCond .eq 19, 3) := by decide +kernel
theorem dX7_runScript_40 : decode cX7_runScript 40 = .ok (.lload_n 2, 1) := by decide +kernel
theorem dX7_runScript_41 : decode cX7_runScript 41 = .ok (.lconst 0, 1) := by decide +kernel
theorem dX7_runScript_42 : decode cX7_runScript 42 = .ok (.lload 4, 2) := by decide +kernel
theorem dX7_runScript_44 : decode cX7_runScript 44 = .ok (.lconst 1, 1) := by decide +kernel
theorem dX7_runScript_45 : decode cX7_runScript 45 = .ok (.lsub, 1) := by decide +kernel
theorem dX7_runScript_46 : decode cX7_runScript 46 = .ok (.invokestatic 58, 3) := by decide +kernel
theorem dX7_runScript_49 : decode cX7_runScript 49 = .ok (.ifCond .eq 7, 3) := by decide +kernel
theorem dX7_runScript_52 : decode cX7_runScript 52 = .ok (.iconst 0, 1) := by decide +kernel
theorem dX7_runScript_53 : decode cX7_runScript 53 = .ok (.goto 4, 3) := by decide +kernel
theorem dX7_runScript_56 : decode cX7_runScript 56 = .ok (.iconst 1, 1) := by decide +kernel
theorem dX7_runScript_57 : decode cX7_runScript 57 = .ok (.invokevirtual 120, 3) := by decide +kernel
theorem dX7_runScript_60 : decode cX7_runScript 60 = .ok (.ifCond .eq 5, 3) := by decide +kernel
theorem dX7_runScript_63 : decode cX7_runScript 63 = .ok (.iconst 0, 1) := by decide +kernel
theorem dX7_runScript_64 : decode cX7_runScript 64 = .ok (.ireturn, 1) := by decide +kernel
theorem dX7_runScript_65 : decode cX7_runScript 65 = .ok (.aload_n 0, 1) := by decide +kernel
theorem dX7_runScript_66 : decode cX7_runScript 66 = .ok (.getfield 16, 3) := by decide +kernel
theorem dX7_runScript_69 : decode cX7_runScript 69 = .ok (.iconst 0, 1) := by decide +kernel
theorem dX7_runScript_70 : decode cX7_runScript 70 = .ok (.aload_n 0, 1) := by decide +kernel
theorem dX7_runScript_71 : decode cX7_runScript 71 = .ok (.getfield 19, 3) := by decide +kernel
theorem dX7_runScript_74 : decode cX7_runScript 74 = .ok (.iconst 0, 1) := by decide +kernel
theorem dX7_runScript_75 : decode cX7_runScript 75 = .ok (.invokestatic 107, 3) := by decide +kernel
theorem dX7_runScript_78 : decode cX7_runScript 78 = .ok (.lload_n 2, 1) := by decide +kernel
theorem dX7_runScript_79 : decode cX7_runScript 79 = .ok (.lstore 6, 2) := by decide +kernel
theorem dX7_runScript_81 : decode cX7_runScript 81 = .ok (.iconst 0, 1) := by decide +kernel
theorem dX7_runScript_82 : decode cX7_runScript 82 = .ok (.istore 8, 2) := by decide +kernel
theorem dX7_runScript_84 : decode cX7_runScript 84 = .ok (.iload 8, 2) := by decide +kernel
theorem dX7_runScript_86 : decode cX7_runScript 86 = .ok (.iload_n 1, 1) := by decide +kernel
theorem dX7_runScript_87 : decode cX7_runScript 87 = .ok (.if_icmp .ge 78, 3) := by decide +kernel
theorem dX7_runScript_90 : decode cX7_runScript 90 = .ok (.lload 4, 2) := by decide +kernel
theorem dX7_runScript_92 : decode cX7_runScript 92 = .ok (.ldc2_w 246, 3) := by decide +kernel
theorem dX7_runScript_95 : decode cX7_runScript 95 = .ok (.ldiv, 1) := by decide +kernel
theorem dX7_runScript_96 : decode cX7_runScript 96 = .ok (.lstore 4, 2) := by decide +kernel
theorem dX7_runScript_98 : decode cX7_runScript 98 = .ok (.lload 6, 2) := by decide +kernel
theorem dX7_runScript_100 : decode cX7_runScript 100 = .ok (.lload 4, 2) := by decide +kernel
theorem dX7_runScript_102 : decode cX7_runScript 102 = .ok (.ldiv, 1) := by decide +kernel
theorem dX7_runScript_103 : decode cX7_runScript 103 = .ok (.l2i, 1) := by decide +kernel
theorem dX7_runScript_104 : decode cX7_runScript 104 = .ok (.istore 9, 2) := by decide +kernel
theorem dX7_runScript_106 : decode cX7_runScript 106 = .ok (.lload 6, 2) := by decide +kernel
theorem dX7_runScript_108 : decode cX7_runScript 108 = .ok (.lload 4, 2) := by decide +kernel
theorem dX7_runScript_110 : decode cX7_runScript 110 = .ok (.lrem, 1) := by decide +kernel
theorem dX7_runScript_111 : decode cX7_runScript 111 = .ok (.lstore 6, 2) := by decide +kernel
theorem dX7_runScript_113 : decode cX7_runScript 113 = .ok (.aload_n 0, 1) := by decide +kernel
theorem dX7_runScript_114 : decode cX7_runScript 114 = .ok (.iload 9, 2) := by decide +kernel
theorem dX7_runScript_116 : decode cX7_runScript 116 = .ok (.sipush 10000, 3) := by decide +kernel
theorem dX7_runScript_119 : decode cX7_runScript 119 = .ok (.idiv, 1) := by decide +kernel
theorem dX7_runScript_120 : decode cX7_runScript 120 = .ok (.iload 9, 2) := by decide +kernel
theorem dX7_runScript_122 : decode cX7_runScript 122 = .ok (.sipush 1000, 3) := by decide +kernel
theorem dX7_runScript_125 : decode cX7_runScript 125 = .ok (.idiv, 1) := by decide +kernel
theorem dX7_runScript_126 : decode cX7_runScript 126 = .ok (.bipush 10, 2) := by decide +kernel
theorem dX7_runScript_128 : decode cX7_runScript 128 = .ok (.irem, 1) := by decide +kernel
theorem dX7_runScript_129 : decode cX7_runScript 129 = .ok (.iload 9, 2) := by decide +kernel
theorem dX7_runScript_131 : decode cX7_runScript 131 = .ok (.bipush 100, 2) := by decide +kernel
theorem dX7_runScript_133 : decode cX7_runScript 133 = .ok (.idiv, 1) := by decide +kernel
theorem dX7_runScript_134 : decode cX7_runScript 134 = .ok (.bipush 10, 2) := by decide +kernel
theorem dX7_runScript_136 : decode cX7_runScript 136 = .ok (.irem, 1) := by decide +kernel
theorem dX7_runScript_137 : decode cX7_runScript 137 = .ok (.iload 9, 2) := by decide +kernel
theorem dX7_runScript_139 : decode cX7_runScript 139 = .ok (.bipush 10, 2) := by decide +kernel
theorem dX7_runScript_141 : decode cX7_runScript 141 = .ok (.idiv, 1) := by decide +kernel
theorem dX7_runScript_142 : decode cX7_runScript 142 = .ok (.bipush 10, 2) := by decide +kernel
theorem dX7_runScript_144 : decode cX7_runScript 144 = .ok (.irem, 1) := by decide +kernel
theorem dX7_runScript_145 : decode cX7_runScript 145 = .ok (.iload 9, 2) := by decide +kernel
theorem dX7_runScript_147 : decode cX7_runScript 147 = .ok (.bipush 10, 2) := by decide +kernel
theorem dX7_runScript_149 : decode cX7_runScript 149 = .ok (.irem, 1) := by decide +kernel
theorem dX7_runScript_150 : decode cX7_runScript 150 = .ok (.invokevirtual 252, 3) := by decide +kernel
theorem dX7_runScript_153 : decode cX7_runScript 153 = .ok (.ifCond .ne 6, 3) := by decide +kernel
theorem dX7_runScript_156 : decode cX7_runScript 156 = .ok (.iload 8, 2) := by decide +kernel
theorem dX7_runScript_158 : decode cX7_runScript 158 = .ok (.ireturn, 1) := by decide +kernel
theorem dX7_runScript_159 : decode cX7_runScript 159 = .ok (.iinc 8 1, 3) := by decide +kernel
theorem dX7_runScript_162 : decode cX7_runScript 162 = .ok (.goto (-78), 3) := by decide +kernel
theorem dX7_runScript_165 : decode cX7_runScript 165 = .ok (.bipush (-9), 2) := by decide +kernel
theorem dX7_runScript_167 : decode cX7_runScript 167 = .ok (.ireturn, 1) := by decide +kernel
def LX7_runScript_84 {ρ : Type} (T : zT) (x14 : Nat) (x15 : Int32) (K0 : Int32 → zH → Option ρ) (K1 : zH → Option ρ) : Nat → Int64 → Int64 → Int32 → zH → Option ρ
  | 0, _, _, _, _ => none
  | k + 1, x16, x17, x18, h19 => if x15 ≤ x18 then (K1 h19) else ((zdivL x16 (100000 : Int64)).bind fun x20 => (zdivL x17 x20).bind fun x21 => (zremL x17 x20).bind fun x22 => (zdivI x21.toInt32 10000).bind fun x23 => (zdivI x21.toInt32 1000).bind fun x24 => (zremI x24 10).bind fun x25 => (zdivI x21.toInt32 100).bind fun x26 => (zremI x26 10).bind fun x27 => (zdivI x21.toInt32 10).bind fun x28 => (zremI x28 10).bind fun x29 => (zremI x21.toInt32 10).bind fun x30 => zb2 (FX7_does T x14 x23 x25 x27 x29 x30 h19) fun x32 h33 => if x32 = 0 then (K0 x18 h33) else (LX7_runScript_84 T x14 x15 K0 K1 k x20 x22 (x18 + 1) h33))
set_option maxHeartbeats 4000000 in
set_option maxRecDepth 100000 in
theorem LX7_runScript_84_ok {X : zX} (C : zC X cX7_runScript 10 RX7 "runScript" (some .int) 7 177) {Z : State → Prop} {al : Bool} {hi : Nat} {ρ : Type} {r9 : ρ} {x14 : Nat} {x15 : Int32} {K0 : Int32 → zH → Option ρ} {K1 : zH → Option ρ} (hK0 : ∀ (y8 : Int32) (g9 : zH), K0 y8 g9 = some r9 → zW X 10 Z 0 0 al hi g9 156 [(8, .int y8)] []) (hK1 : ∀ (g9 : zH), K1 g9 = some r9 → zW X 10 Z 0 0 al hi g9 165 [] []) : ∀ (k : Nat) (x16 : Int64) (x17 : Int64) (x18 : Int32) (h19 : zH), LX7_runScript_84 (xT X) x14 x15 K0 K1 k x16 x17 x18 h19 = some r9 → zW X 10 Z 0 0 al hi h19 84 [(0, .ref x14), (1, .int x15), (4, .long x16), (6, .long x17), (8, .int x18)] [] := by
  intro k
  induction k with
  | zero =>
    intro x16 x17 x18 h19 hf
    have hf : none = some r9 := hf
    cases hf
  | succ k ih =>
    intro x16 x17 x18 h19 hf
    rw [LX7_runScript_84.eq_2] at hf
    refine z_iload C dX7_runScript_84 4 rfl ?_
    refine z_iload_n C dX7_runScript_86 1 rfl rfl ?_
    refine z_icmp_ge (tgt := 165) C dX7_runScript_87 (by decide) hf (fun hf => ?_) (fun hf => ?_)
    · refine z_sub [] rfl ?_
      exact hK1 _ hf
    · refine z_lload C dX7_runScript_90 2 rfl ?_
      refine z_ldc2 C (v := 100000) mw_1309 dX7_runScript_92 ?_
      refine z_ldiv C dX7_runScript_95 hf (fun x20 _ hf => ?_)
      refine z_lstore C dX7_runScript_96 (by decide) (lv' := [(4, .long x20), (0, .ref x14), (1, .int x15), (6, .long x17), (8, .int x18)]) rfl ?_
      refine z_lload C dX7_runScript_98 3 rfl ?_
      refine z_lload C dX7_runScript_100 0 rfl ?_
      refine z_ldiv C dX7_runScript_102 hf (fun x21 _ hf => ?_)
      refine z_l2i C dX7_runScript_103 ?_
      refine z_istore C dX7_runScript_104 (by decide) (lv' := [(9, .int x21.toInt32), (4, .long x20), (0, .ref x14), (1, .int x15), (6, .long x17), (8, .int x18)]) rfl ?_
      refine z_lload C dX7_runScript_106 4 rfl ?_
      refine z_lload C dX7_runScript_108 1 rfl ?_
      refine z_lrem C dX7_runScript_110 hf (fun x22 _ hf => ?_)
      refine z_lstore C dX7_runScript_111 (by decide) (lv' := [(6, .long x22), (9, .int x21.toInt32), (4, .long x20), (0, .ref x14), (1, .int x15), (8, .int x18)]) rfl ?_
      refine z_aload_n C dX7_runScript_113 3 rfl rfl ?_
      refine z_iload C dX7_runScript_114 1 rfl ?_
      refine z_sipush C (v := 10000) dX7_runScript_116 (by decide) ?_
      refine z_idiv C dX7_runScript_119 hf (fun x23 _ hf => ?_)
      refine z_iload C dX7_runScript_120 1 rfl ?_
      refine z_sipush C (v := 1000) dX7_runScript_122 (by decide) ?_
      refine z_idiv C dX7_runScript_125 hf (fun x24 _ hf => ?_)
      refine z_bipush C (v := 10) dX7_runScript_126 (by decide) ?_
      refine z_irem C dX7_runScript_128 hf (fun x25 _ hf => ?_)
      refine z_iload C dX7_runScript_129 1 rfl ?_
      refine z_bipush C (v := 100) dX7_runScript_131 (by decide) ?_
      refine z_idiv C dX7_runScript_133 hf (fun x26 _ hf => ?_)
      refine z_bipush C (v := 10) dX7_runScript_134 (by decide) ?_
      refine z_irem C dX7_runScript_136 hf (fun x27 _ hf => ?_)
      refine z_iload C dX7_runScript_137 1 rfl ?_
      refine z_bipush C (v := 10) dX7_runScript_139 (by decide) ?_
      refine z_idiv C dX7_runScript_141 hf (fun x28 _ hf => ?_)
      refine z_bipush C (v := 10) dX7_runScript_142 (by decide) ?_
      refine z_irem C dX7_runScript_144 hf (fun x29 _ hf => ?_)
      refine z_iload C dX7_runScript_145 1 rfl ?_
      refine z_bipush C (v := 10) dX7_runScript_147 (by decide) ?_
      refine z_irem C dX7_runScript_149 hf (fun x30 _ hf => ?_)
      obtain ⟨x32, h33, g31, hf⟩ := zbind2 hf
      refine z_callV (kc' := 0) (ks' := 0) C (MX7_does (xl X) (xD X) (xT X) (xlo X) al hi g31) (OX7_does g31) rfl cw_X7_252 yv_X7_does dX7_runScript_150 rfl (by decide) ⟨rfl, rfl⟩ (Nat.le_of_ble_eq_true rfl) (st := []) rfl ?_
      refine z_if_ne (tgt := 159) C dX7_runScript_153 (by decide) hf (fun hf => ?_) (fun hf => ?_)
      · refine z_iinc C dX7_runScript_159 (k := 5) (d := 1) rfl (by decide) (by decide) (lv' := [(8, .int (x18 + 1)), (6, .long x22), (9, .int x21.toInt32), (4, .long x20), (0, .ref x14), (1, .int x15)]) rfl ?_
        refine z_goto (tgt := 84) C dX7_runScript_162 (by decide) ?_
        refine z_sub [4, 5, 3, 1, 0] rfl ?_
        exact ih _ _ _ _ hf
      · refine z_sub [5] rfl ?_
        exact hK0 _ _ hf
def FX7_runScript (T : zT) (a0 : Nat) (p0 : Int32) (p1 : Int64) (h : zH) : Option (Int32 × zH) := (zo h a0 7).bind fun _ => zJ (fun (x1 : Int64) => zJ (fun (x3 : Int64) (x4 : Int32) (x5 : Nat) => zb2 (FX7_refused T x5 x4 h) fun x8 h9 => if x8 = 0 then ((zgr h9 a0 7 5).bind fun x10 => (zgr h9 a0 7 6).bind fun x11 => (FX7_copyPage T x10 0 x11 0 h9).bind fun h13 => LX7_runScript_84 T a0 p0 (fun (x34 : Int32) (h35 : zH) => some (x34, h35)) (fun (h36 : zH) => some ((-9 : Int32), h36)) FUEL x3 p1 0 h13) else (some (0, h9))) (fun J6 => zJ (fun (x37 : Int64) (x38 : Nat) => J6 x37 1 x38) (fun J39 => (FX7_in T p0.toInt64 (1 : Int64) (3 : Int64) h).bind fun x41 => if x41 = 0 then (J39 x1 a0) else ((FX7_in T p1 (0 : Int64) (x1 - (1 : Int64)) h).bind fun x43 => if x43 = 0 then (J39 x1 a0) else (J6 x1 0 a0))))) (fun J2 => if p0 = 1 then (J2 (100000 : Int64)) else (if p0 = 2 then (J2 (10000000000 : Int64)) else (J2 (1000000000000000 : Int64))))
set_option maxHeartbeats 4000000 in
set_option maxRecDepth 100000 in
theorem BX7_runScript {X : zX} (C : zC X cX7_runScript 10 RX7 "runScript" (some .int) 7 177) {al : Bool} {hi : Nat} {h : zH} {a0 : Nat} {p0 : Int32} {p1 : Int64} {r9 : (Int32 × zH)} (hf : FX7_runScript (xT X) a0 p0 p1 h = some r9) : zW X 10 (zZ X al (some (.int r9.1), hi, r9.2)) 0 0 al hi h 0 [(0, .ref a0), (1, .int p0), (2, .long p1)] [] := by
  unfold FX7_runScript at hf
  obtain ⟨_, _, hf⟩ := zbind hf
  refine z_join (P := fun J => ∀ (x1 : Int64), J x1 = some r9 → zW X 10 (zZ X al (some (.int r9.1), hi, r9.2)) 0 0 al hi h 25 [(0, .ref a0), (1, .int p0), (2, .long p1)] [.long x1]) hf ?_ ?_
  · intro x1 hf
    refine z_join (P := fun J => ∀ (x3 : Int64) (x4 : Int32) (x5 : Nat), J x3 x4 x5 = some r9 → zW X 10 (zZ X al (some (.int r9.1), hi, r9.2)) 0 0 al hi h 57 [(0, .ref a0), (1, .int p0), (2, .long p1), (4, .long x3)] [.int x4, .ref x5]) hf ?_ ?_
    · intro x3 x4 x5 hf
      obtain ⟨x8, h9, g7, hf⟩ := zbind2 hf
      refine z_callV (kc' := 0) (ks' := 0) C (MX7_refused (xl X) (xD X) (xT X) (xlo X) al hi g7) (OX7_refused g7) rfl cw_X7_120 yv_X7_refused dX7_runScript_57 rfl (by decide) ⟨rfl, rfl⟩ (Nat.le_of_ble_eq_true rfl) (st := []) rfl ?_
      refine z_if_eq (tgt := 65) C dX7_runScript_60 (by decide) hf (fun hf => ?_) (fun hf => ?_)
      · refine z_aload_n C dX7_runScript_65 0 rfl rfl ?_
        refine z_getR C fl_X7_16 dX7_runScript_66 hf (fun x10 hf => ?_)
        refine z_iconst C (v := 0) dX7_runScript_69 (by decide) ?_
        refine z_aload_n C dX7_runScript_70 0 rfl rfl ?_
        refine z_getR C fl_X7_19 dX7_runScript_71 hf (fun x11 hf => ?_)
        refine z_iconst C (v := 0) dX7_runScript_74 (by decide) ?_
        obtain ⟨h13, g12, hf⟩ := zbind hf
        refine z_callS (kc' := 0) (ks' := 0) C (MX7_copyPage (xl X) (xD X) (xT X) (xlo X) al hi g12) cw_X7_107 ys_X7_copyPage dX7_runScript_75 rfl (by decide) ⟨rfl, rfl⟩ (Nat.le_of_ble_eq_true rfl) (st := []) rfl ?_
        refine z_lload_n C dX7_runScript_78 2 rfl rfl ?_
        refine z_lstore C dX7_runScript_79 (by decide) (lv' := [(6, .long p1), (0, .ref a0), (1, .int p0), (2, .long p1), (4, .long x3)]) rfl ?_
        refine z_iconst C (v := 0) dX7_runScript_81 (by decide) ?_
        refine z_istore C dX7_runScript_82 (by decide) (lv' := [(8, .int 0), (6, .long p1), (0, .ref a0), (1, .int p0), (2, .long p1), (4, .long x3)]) rfl ?_
        refine z_sub [2, 3, 5, 1, 0] rfl ?_
        refine LX7_runScript_84_ok C ?_ ?_ FUEL _ _ _ _ hf
        · intro x34 h35 hf
          refine z_iload C dX7_runScript_156 0 rfl ?_
          exact z_ireturn C dX7_runScript_158 (by cases hf; rfl)
        · intro h36 hf
          refine z_bipush C (v := (-9 : Int32)) dX7_runScript_165 (by decide) ?_
          exact z_ireturn C dX7_runScript_167 (by cases hf; rfl)
      · refine z_iconst C (v := 0) dX7_runScript_63 (by decide) ?_
        exact z_ireturn C dX7_runScript_64 (by cases hf; rfl)
    · intro J6 kJ6 hf
      refine z_join (P := fun J => ∀ (x37 : Int64) (x38 : Nat), J x37 x38 = some r9 → zW X 10 (zZ X al (some (.int r9.1), hi, r9.2)) 0 0 al hi h 56 [(0, .ref a0), (1, .int p0), (2, .long p1), (4, .long x37)] [.ref x38]) hf ?_ ?_
      · intro x37 x38 hf
        refine z_iconst C (v := 1) dX7_runScript_56 (by decide) ?_
        exact kJ6 _ _ _ hf
      · intro J39 kJ39 hf
        refine z_lstore C dX7_runScript_25 (by decide) (lv' := [(4, .long x1), (0, .ref a0), (1, .int p0), (2, .long p1)]) rfl ?_
        refine z_aload_n C dX7_runScript_27 1 rfl rfl ?_
        refine z_iload_n C dX7_runScript_28 2 rfl rfl ?_
        refine z_i2l C dX7_runScript_29 ?_
        refine z_lconst C (v := 1) dX7_runScript_30 (by decide) ?_
        refine z_ldc2 C (v := 3) mw_1212 dX7_runScript_31 ?_
        obtain ⟨x41, g40, hf⟩ := zbind hf
        refine z_callS (kc' := 0) (ks' := 0) C (MX7_in (xl X) (xD X) (xT X) (xlo X) al hi g40) cw_X7_58 ys_X7_in dX7_runScript_34 rfl (by decide) ⟨rfl, rfl⟩ (Nat.le_of_ble_eq_true rfl) (st := [.ref a0]) rfl ?_
        refine z_if_eq (tgt := 56) C dX7_runScript_37 (by decide) hf (fun hf => ?_) (fun hf => ?_)
        · refine z_sub [1, 2, 3, 0] rfl ?_
          exact kJ39 _ _ hf
        · refine z_lload_n C dX7_runScript_40 3 rfl rfl ?_
          refine z_lconst C (v := 0) dX7_runScript_41 (by decide) ?_
          refine z_lload C dX7_runScript_42 0 rfl ?_
          refine z_lconst C (v := 1) dX7_runScript_44 (by decide) ?_
          refine z_lsub C dX7_runScript_45 ?_
          obtain ⟨x43, g42, hf⟩ := zbind hf
          refine z_callS (kc' := 0) (ks' := 0) C (MX7_in (xl X) (xD X) (xT X) (xlo X) al hi g42) cw_X7_58 ys_X7_in dX7_runScript_46 rfl (by decide) ⟨rfl, rfl⟩ (Nat.le_of_ble_eq_true rfl) (st := [.ref a0]) rfl ?_
          refine z_if_eq (tgt := 56) C dX7_runScript_49 (by decide) hf (fun hf => ?_) (fun hf => ?_)
          · refine z_sub [1, 2, 3, 0] rfl ?_
            exact kJ39 _ _ hf
          · refine z_iconst C (v := 0) dX7_runScript_52 (by decide) ?_
            refine z_goto (tgt := 57) C dX7_runScript_53 (by decide) ?_
            refine z_sub [1, 2, 3, 0] rfl ?_
            exact kJ6 _ _ _ hf
  · intro J2 kJ2 hf
    refine z_iload_n C dX7_runScript_0 1 rfl rfl ?_
    refine z_iconst C (v := 1) dX7_runScript_1 (by decide) ?_
    refine z_icmp_ne (tgt := 11) C dX7_runScript_2 (by decide) hf (fun hf => ?_) (fun hf => ?_)
    · refine z_iload_n C dX7_runScript_11 1 rfl rfl ?_
      refine z_iconst C (v := 2) dX7_runScript_12 (by decide) ?_
      refine z_icmp_ne (tgt := 22) C dX7_runScript_13 (by decide) hf (fun hf => ?_) (fun hf => ?_)
      · refine z_ldc2 C (v := 1000000000000000) mw_1311 dX7_runScript_22 ?_
        exact kJ2 _ hf
      · refine z_ldc2 C (v := 10000000000) mw_1310 dX7_runScript_16 ?_
        refine z_goto (tgt := 25) C dX7_runScript_19 (by decide) ?_
        exact kJ2 _ hf
    · refine z_ldc2 C (v := 100000) mw_1309 dX7_runScript_5 ?_
      refine z_goto (tgt := 25) C dX7_runScript_8 (by decide) ?_
      exact kJ2 _ hf
theorem MX7_runScript (l : Launch) (D : va_G) (T : zT) (lo : Nat) (al : Bool) (hi : Nat) {h : zH} {a0 : Nat} {p0 : Int32} {p1 : Int64} {v9 : Int32} {h9 : zH} (hf : FX7_runScript T a0 p0 p1 h = some (v9, h9)) : zM l yX7_runScript (.code yX7_runScript cX7_runScript 10 (some .int) :: TW) ({ frames := 7, cells := 0, slots := 0, locals := 177 } : Room) D T lo al [.ref a0, .int p0, .long p1] hi h (some (.int v9), hi, h9) :=
  z_enter (own := RX7) (nm := "runScript") (lv := [(0, .ref a0), (1, .int p0), (2, .long p1)]) (by decide +kernel) rfl rfl (Nat.le_of_ble_eq_true rfl) rfl (fun _ _ _ _ _ _ _ _ C => BX7_runScript C hf)
theorem OX7_runScript {T : zT} {h : zH} {a0 : Nat} {p0 : Int32} {p1 : Int64} {r9 : (Int32 × zH)} (hf : FX7_runScript T a0 p0 p1 h = some r9) : ∃ fs, h a0 = some (.inr (7, fs)) := by
  obtain ⟨_, h1, _⟩ := zbind hf
  exact zo_obj h1
theorem dX7_simulate_0 : decode cX7_simulate 0 = .ok (.aload_n 0, 1) := by decide +kernel
theorem dX7_simulate_1 : decode cX7_simulate 1 = .ok (.iload_n 3, 1) := by decide +kernel
theorem dX7_simulate_2 : decode cX7_simulate 2 = .ok (.i2l, 1) := by decide +kernel
theorem dX7_simulate_3 : decode cX7_simulate 3 = .ok (.lconst 1, 1) := by decide +kernel
theorem dX7_simulate_4 : decode cX7_simulate 4 = .ok (.ldc2_w 256, 3) := by decide +kernel
theorem dX7_simulate_7 : decode cX7_simulate 7 = .ok (.invokestatic 58, 3) := by decide +kernel
theorem dX7_simulate_10 : decode cX7_simulate 10 = .ok (.ifCond .eq 7, 3) := by decide +kernel
theorem dX7_simulate_13 : decode cX7_simulate 13 = .ok (.iconst 0, 1) := by decide +kernel
theorem dX7_simulate_14 : decode cX7_simulate 14 = .ok (.goto 4, 3) := by decide +kernel
theorem dX7_simulate_17 : decode cX7_simulate 17 = .ok (.iconst 1, 1) := by decide +kernel
theorem dX7_simulate_18 : decode cX7_simulate 18 = .ok (.invokevirtual 120, 3) := by decide +kernel
theorem dX7_simulate_21 : decode cX7_simulate 21 = .ok (.ifCond .eq 5, 3) := by decide +kernel
theorem dX7_simulate_24 : decode cX7_simulate 24 = .ok (.iconst 0, 1) := by decide +kernel
theorem dX7_simulate_25 : decode cX7_simulate 25 = .ok (.ireturn, 1) := by decide +kernel
theorem dX7_simulate_26 : decode cX7_simulate 26 = .ok (.aload_n 0, 1) := by decide +kernel
theorem dX7_simulate_27 : decode cX7_simulate 27 = .ok (.getfield 16, 3) := by decide +kernel
theorem dX7_simulate_30 : decode cX7_simulate 30 = .ok (.iconst 0, 1) := by decide +kernel
theorem dX7_simulate_31 : decode cX7_simulate 31 = .ok (.aload_n 0, 1) := by decide +kernel
theorem dX7_simulate_32 : decode cX7_simulate 32 = .ok (.getfield 19, 3) := by decide +kernel
theorem dX7_simulate_35 : decode cX7_simulate 35 = .ok (.iconst 0, 1) := by decide +kernel
theorem dX7_simulate_36 : decode cX7_simulate 36 = .ok (.invokestatic 107, 3) := by decide +kernel
theorem dX7_simulate_39 : decode cX7_simulate 39 = .ok (.lload_n 1, 1) := by decide +kernel
theorem dX7_simulate_40 : decode cX7_simulate 40 = .ok (.lstore 4, 2) := by decide +kernel
theorem dX7_simulate_42 : decode cX7_simulate 42 = .ok (.iconst 0, 1) := by decide +kernel
theorem dX7_simulate_43 : decode cX7_simulate 43 = .ok (.istore 6, 2) := by decide +kernel
theorem dX7_simulate_45 : decode cX7_simulate 45 = .ok (.iload 6, 2) := by decide +kernel
theorem dX7_simulate_47 : decode cX7_simulate 47 = .ok (.iload_n 3, 1) := by decide +kernel
theorem dX7_simulate_48 : decode cX7_simulate 48 = .ok (.if_icmp .ge 113, 3) := by decide +kernel
theorem dX7_simulate_51 : decode cX7_simulate 51 = .ok (.lload 4, 2) := by decide +kernel
theorem dX7_simulate_53 : decode cX7_simulate 53 = .ok (.ldc2_w 258, 3) := by decide +kernel
theorem dX7_simulate_56 : decode cX7_simulate 56 = .ok (.lmul, 1) := by decide +kernel
theorem dX7_simulate_57 : decode cX7_simulate 57 = .ok (.ldc2_w 260, 3) := by decide +kernel
theorem dX7_simulate_60 : decode cX7_simulate 60 = .ok (.ladd, 1) := by decide +kernel
theorem dX7_simulate_61 : decode cX7_simulate 61 = .ok (.lstore 4, 2) := by decide +kernel
theorem dX7_simulate_63 : decode cX7_simulate 63 = .ok (.lload 4, 2) := by decide +kernel
theorem dX7_simulate_65 : decode cX7_simulate 65 = .ok (.bipush 33, 2) := by decide +kernel
theorem dX7_simulate_67 : decode cX7_simulate 67 = .ok (.lushr, 1) := by decide +kernel
theorem dX7_simulate_68 : decode cX7_simulate 68 = .ok (.l2i, 1) := by decide +kernel
theorem dX7_simulate_69 : decode cX7_simulate 69 = .ok (.istore 7, 2) := by decide +kernel
theorem dX7_simulate_71 : decode cX7_simulate 71 = .ok (.iload 7, 2) := by decide +kernel
theorem dX7_simulate_73 : decode cX7_simulate 73 = .ok (.aload_n 0, 1) := by decide +kernel
theorem dX7_simulate_74 : decode cX7_simulate 74 = .ok (.getfield 19, 3) := by decide +kernel
theorem dX7_simulate_77 : decode cX7_simulate 77 = .ok (.iconst 0, 1) := by decide +kernel
theorem dX7_simulate_78 : decode cX7_simulate 78 = .ok (.iaload, 1) := by decide +kernel
theorem dX7_simulate_79 : decode cX7_simulate 79 = .ok (.irem, 1) := by decide +kernel
theorem dX7_simulate_80 : decode cX7_simulate 80 = .ok (.iload 7, 2) := by decide +kernel
theorem dX7_simulate_82 : decode cX7_simulate 82 = .ok (.bipush 16, 2) := by decide +kernel
theorem dX7_simulate_84 : decode cX7_simulate 84 = .ok (.idiv, 1) := by decide +kernel
theorem dX7_simulate_85 : decode cX7_simulate 85 = .ok (.aload_n 0, 1) := by decide +kernel
theorem dX7_simulate_86 : decode cX7_simulate 86 = .ok (.getfield 19, 3) := by decide +kernel
theorem dX7_simulate_89 : decode cX7_simulate 89 = .ok (.iconst 1, 1) := by decide +kernel
theorem dX7_simulate_90 : decode cX7_simulate 90 = .ok (.iaload, 1) := by decide +kernel
theorem dX7_simulate_91 : decode cX7_simulate 91 = .ok (.irem, 1) := by decide +kernel
theorem dX7_simulate_92 : decode cX7_simulate 92 = .ok (.invokestatic 66, 3) := by decide +kernel
theorem dX7_simulate_95 : decode cX7_simulate 95 = .ok (.istore 8, 2) := by decide +kernel
theorem dX7_simulate_97 : decode cX7_simulate 97 = .ok (.aload_n 0, 1) := by decide +kernel
theorem dX7_simulate_98 : decode cX7_simulate 98 = .ok (.getfield 19, 3) := by decide +kernel
theorem dX7_simulate_101 : decode cX7_simulate 101 = .ok (.iload 8, 2) := by decide +kernel
theorem dX7_simulate_103 : decode cX7_simulate 103 = .ok (.iaload, 1) := by decide +kernel
theorem dX7_simulate_104 : decode cX7_simulate 104 = .ok (.iconst 2, 1) := by decide +kernel
theorem dX7_simulate_105 : decode cX7_simulate 105 = .ok (.if_icmp .ne 14, 3) := by decide +kernel
theorem dX7_simulate_108 : decode cX7_simulate 108 = .ok (.aload_n 0, 1) := by decide +kernel
theorem dX7_simulate_109 : decode cX7_simulate 109 = .ok (.getfield 19, 3) := by decide +kernel
theorem dX7_simulate_112 : decode cX7_simulate 112 = .ok (.iload 8, 2) := by decide +kernel
theorem dX7_simulate_114 : decode cX7_simulate 114 = .ok (.iconst 0, 1) := by decide +kernel
theorem dX7_simulate_115 : decode cX7_simulate 115 = .ok (.invokestatic 209, 3) := by decide +kernel
theorem dX7_simulate_118 : decode cX7_simulate 118 = .ok (.pop, 1) := by decide +kernel
theorem dX7_simulate_119 : decode cX7_simulate 119 = .ok (.aload_n 0, 1) := by decide +kernel
theorem dX7_simulate_120 : decode cX7_simulate 120 = .ok (.getfield 19, 3) := by decide +kernel
theorem dX7_simulate_123 : decode cX7_simulate 123 = .ok (.iload 8, 2) := by decide +kernel
theorem dX7_simulate_125 : decode cX7_simulate 125 = .ok (.iload 7, 2) := by decide +kernel
theorem dX7_simulate_127 : decode cX7_simulate 127 = .ok (.sipush 256, 3) := by decide +kernel
theorem dX7_simulate_130 : decode cX7_simulate 130 = .ok (.idiv, 1) := by decide +kernel
theorem dX7_simulate_131 : decode cX7_simulate 131 = .ok (.bipush 27, 2) := by decide +kernel
theorem dX7_simulate_133 : decode cX7_simulate 133 = .ok (.irem, 1) := by decide +kernel
theorem dX7_simulate_134 : decode cX7_simulate 134 = .ok (.iload 7, 2) := by decide +kernel
theorem dX7_simulate_136 : decode cX7_simulate 136 = .ok (.sipush 8192, 3) := by decide +kernel
theorem dX7_simulate_139 : decode cX7_simulate 139 = .ok (.idiv, 1) := by decide +kernel
theorem dX7_simulate_140 : decode cX7_simulate 140 = .ok (.iconst 4, 1) := by decide +kernel
theorem dX7_simulate_141 : decode cX7_simulate 141 = .ok (.irem, 1) := by decide +kernel
theorem dX7_simulate_142 : decode cX7_simulate 142 = .ok (.iload 7, 2) := by decide +kernel
theorem dX7_simulate_144 : decode cX7_simulate 144 = .ok (.ldc_w 262, 3) := by decide +kernel
theorem dX7_simulate_147 : decode cX7_simulate 147 = .ok (.idiv, 1) := by decide +kernel
theorem dX7_simulate_148 : decode cX7_simulate 148 = .ok (.bipush 9, 2) := by decide +kernel
theorem dX7_simulate_150 : decode cX7_simulate 150 = .ok (.irem, 1) := by decide +kernel
theorem dX7_simulate_151 : decode cX7_simulate 151 = .ok (.invokestatic 144, 3) := by decide +kernel
theorem dX7_simulate_154 : decode cX7_simulate 154 = .ok (.pop, 1) := by decide +kernel
theorem dX7_simulate_155 : decode cX7_simulate 155 = .ok (.iinc 6 1, 3) := by decide +kernel
theorem dX7_simulate_158 : decode cX7_simulate 158 = .ok (.goto (-113), 3) := by decide +kernel
theorem dX7_simulate_161 : decode cX7_simulate 161 = .ok (.sipush 1000, 3) := by decide +kernel
theorem dX7_simulate_164 : decode cX7_simulate 164 = .ok (.aload_n 0, 1) := by decide +kernel
theorem dX7_simulate_165 : decode cX7_simulate 165 = .ok (.aload_n 0, 1) := by decide +kernel
theorem dX7_simulate_166 : decode cX7_simulate 166 = .ok (.getfield 19, 3) := by decide +kernel
theorem dX7_simulate_169 : decode cX7_simulate 169 = .ok (.invokestatic 228, 3) := by decide +kernel
theorem dX7_simulate_172 : decode cX7_simulate 172 = .ok (.imul, 1) := by decide +kernel
theorem dX7_simulate_173 : decode cX7_simulate 173 = .ok (.aload_n 0, 1) := by decide +kernel
theorem dX7_simulate_174 : decode cX7_simulate 174 = .ok (.getfield 19, 3) := by decide +kernel
theorem dX7_simulate_177 : decode cX7_simulate 177 = .ok (.invokestatic 175, 3) := by decide +kernel
theorem dX7_simulate_180 : decode cX7_simulate 180 = .ok (.iadd, 1) := by decide +kernel
theorem dX7_simulate_181 : decode cX7_simulate 181 = .ok (.ireturn, 1) := by decide +kernel
def LX7_simulate_45 {ρ : Type} (T : zT) (x11 : Nat) (x12 : Int32) (K0 : zH → Option ρ) : Nat → Int64 → Int32 → zH → Option ρ
  | 0, _, _, _ => none
  | k + 1, x13, x14, h15 => if x12 ≤ x14 then (K0 h15) else (zJ (fun (x16 : Int64) (x17 : Int32) (x18 : Int32) (h19 : zH) => (zgr h19 x11 7 6).bind fun x21 => (zdivI x17 256).bind fun x22 => (zremI x22 27).bind fun x23 => (zdivI x17 8192).bind fun x24 => (zremI x24 4).bind fun x25 => (zdivI x17 65536).bind fun x26 => (zremI x26 9).bind fun x27 => zb2 (FX7_writeOn T x21 x18 x23 x25 x27 h19) fun x29 h30 => LX7_simulate_45 T x11 x12 K0 k x16 (x14 + 1) h30) (fun J20 => (zgr h15 x11 7 6).bind fun x31 => (zai T h15 x31 0).bind fun x32 => (zremI ((zlushr ((x13 * (6364136223846793005 : Int64)) + (1442695040888963407 : Int64)) 33).toInt32) x32).bind fun x33 => (zdivI ((zlushr ((x13 * (6364136223846793005 : Int64)) + (1442695040888963407 : Int64)) 33).toInt32) 16).bind fun x34 => (zgr h15 x11 7 6).bind fun x35 => (zai T h15 x35 1).bind fun x36 => (zremI x34 x36).bind fun x37 => (FX7_cellAt T x33 x37 h15).bind fun x39 => (zgr h15 x11 7 6).bind fun x40 => (zai T h15 x40 x39).bind fun x41 => if x41 = 2 then ((zgr h15 x11 7 6).bind fun x42 => zb2 (FX7_eraseOn T x42 x39 0 h15) fun x44 h45 => J20 ((x13 * (6364136223846793005 : Int64)) + (1442695040888963407 : Int64)) ((zlushr ((x13 * (6364136223846793005 : Int64)) + (1442695040888963407 : Int64)) 33).toInt32) x39 h45) else (J20 ((x13 * (6364136223846793005 : Int64)) + (1442695040888963407 : Int64)) ((zlushr ((x13 * (6364136223846793005 : Int64)) + (1442695040888963407 : Int64)) 33).toInt32) x39 h15)))
set_option maxHeartbeats 4000000 in
set_option maxRecDepth 100000 in
theorem LX7_simulate_45_ok {X : zX} (C : zC X cX7_simulate 9 RX7 "simulate" (some .int) 7 170) {Z : State → Prop} {al : Bool} {hi : Nat} {ρ : Type} {r9 : ρ} {x11 : Nat} {x12 : Int32} {K0 : zH → Option ρ} (hK0 : ∀ (g9 : zH), K0 g9 = some r9 → zW X 9 Z 0 0 al hi g9 161 [(0, .ref x11)] []) : ∀ (k : Nat) (x13 : Int64) (x14 : Int32) (h15 : zH), LX7_simulate_45 (xT X) x11 x12 K0 k x13 x14 h15 = some r9 → zW X 9 Z 0 0 al hi h15 45 [(0, .ref x11), (3, .int x12), (4, .long x13), (6, .int x14)] [] := by
  intro k
  induction k with
  | zero =>
    intro x13 x14 h15 hf
    have hf : none = some r9 := hf
    cases hf
  | succ k ih =>
    intro x13 x14 h15 hf
    rw [LX7_simulate_45.eq_2] at hf
    refine z_iload C dX7_simulate_45 3 rfl ?_
    refine z_iload_n C dX7_simulate_47 1 rfl rfl ?_
    refine z_icmp_ge (tgt := 161) C dX7_simulate_48 (by decide) hf (fun hf => ?_) (fun hf => ?_)
    · refine z_sub [0] rfl ?_
      exact hK0 _ hf
    · refine z_join (P := fun J => ∀ (x16 : Int64) (x17 : Int32) (x18 : Int32) (h19 : zH), J x16 x17 x18 h19 = some r9 → zW X 9 Z 0 0 al hi h19 119 [(0, .ref x11), (3, .int x12), (4, .long x16), (6, .int x14), (7, .int x17), (8, .int x18)] []) hf ?_ ?_
      · intro x16 x17 x18 h19 hf
        refine z_aload_n C dX7_simulate_119 0 rfl rfl ?_
        refine z_getR C fl_X7_19 dX7_simulate_120 hf (fun x21 hf => ?_)
        refine z_iload C dX7_simulate_123 5 rfl ?_
        refine z_iload C dX7_simulate_125 4 rfl ?_
        refine z_sipush C (v := 256) dX7_simulate_127 (by decide) ?_
        refine z_idiv C dX7_simulate_130 hf (fun x22 _ hf => ?_)
        refine z_bipush C (v := 27) dX7_simulate_131 (by decide) ?_
        refine z_irem C dX7_simulate_133 hf (fun x23 _ hf => ?_)
        refine z_iload C dX7_simulate_134 4 rfl ?_
        refine z_sipush C (v := 8192) dX7_simulate_136 (by decide) ?_
        refine z_idiv C dX7_simulate_139 hf (fun x24 _ hf => ?_)
        refine z_iconst C (v := 4) dX7_simulate_140 (by decide) ?_
        refine z_irem C dX7_simulate_141 hf (fun x25 _ hf => ?_)
        refine z_iload C dX7_simulate_142 4 rfl ?_
        refine z_ldc_w C (v := 65536) mw_1323 dX7_simulate_144 ?_
        refine z_idiv C dX7_simulate_147 hf (fun x26 _ hf => ?_)
        refine z_bipush C (v := 9) dX7_simulate_148 (by decide) ?_
        refine z_irem C dX7_simulate_150 hf (fun x27 _ hf => ?_)
        obtain ⟨x29, h30, g28, hf⟩ := zbind2 hf
        refine z_callS (kc' := 0) (ks' := 0) C (MX7_writeOn (xl X) (xD X) (xT X) (xlo X) al hi g28) cw_X7_144 ys_X7_writeOn dX7_simulate_151 rfl (by decide) ⟨rfl, rfl⟩ (Nat.le_of_ble_eq_true rfl) (st := []) rfl ?_
        refine z_pop C dX7_simulate_154 rfl ?_
        refine z_iinc C dX7_simulate_155 (k := 3) (d := 1) rfl (by decide) (by decide) (lv' := [(6, .int (x14 + 1)), (0, .ref x11), (3, .int x12), (4, .long x16), (7, .int x17), (8, .int x18)]) rfl ?_
        refine z_goto (tgt := 45) C dX7_simulate_158 (by decide) ?_
        refine z_sub [1, 2, 3, 0] rfl ?_
        exact ih _ _ _ hf
      · intro J20 kJ20 hf
        refine z_lload C dX7_simulate_51 2 rfl ?_
        refine z_ldc2 C (v := 6364136223846793005) mw_1321 dX7_simulate_53 ?_
        refine z_lmul C dX7_simulate_56 ?_
        refine z_ldc2 C (v := 1442695040888963407) mw_1322 dX7_simulate_57 ?_
        refine z_ladd C dX7_simulate_60 ?_
        refine z_lstore C dX7_simulate_61 (by decide) (lv' := [(4, .long ((x13 * (6364136223846793005 : Int64)) + (1442695040888963407 : Int64))), (0, .ref x11), (3, .int x12), (6, .int x14)]) rfl ?_
        refine z_lload C dX7_simulate_63 0 rfl ?_
        refine z_bipush C (v := 33) dX7_simulate_65 (by decide) ?_
        refine z_lushr C dX7_simulate_67 ?_
        refine z_l2i C dX7_simulate_68 ?_
        refine z_istore C dX7_simulate_69 (by decide) (lv' := [(7, .int ((zlushr ((x13 * (6364136223846793005 : Int64)) + (1442695040888963407 : Int64)) 33).toInt32)), (4, .long ((x13 * (6364136223846793005 : Int64)) + (1442695040888963407 : Int64))), (0, .ref x11), (3, .int x12), (6, .int x14)]) rfl ?_
        refine z_iload C dX7_simulate_71 0 rfl ?_
        refine z_aload_n C dX7_simulate_73 2 rfl rfl ?_
        refine z_getR C fl_X7_19 dX7_simulate_74 hf (fun x31 hf => ?_)
        refine z_iconst C (v := 0) dX7_simulate_77 (by decide) ?_
        refine z_iaload C dX7_simulate_78 hf (fun x32 hf => ?_)
        refine z_irem C dX7_simulate_79 hf (fun x33 _ hf => ?_)
        refine z_iload C dX7_simulate_80 0 rfl ?_
        refine z_bipush C (v := 16) dX7_simulate_82 (by decide) ?_
        refine z_idiv C dX7_simulate_84 hf (fun x34 _ hf => ?_)
        refine z_aload_n C dX7_simulate_85 2 rfl rfl ?_
        refine z_getR C fl_X7_19 dX7_simulate_86 hf (fun x35 hf => ?_)
        refine z_iconst C (v := 1) dX7_simulate_89 (by decide) ?_
        refine z_iaload C dX7_simulate_90 hf (fun x36 hf => ?_)
        refine z_irem C dX7_simulate_91 hf (fun x37 _ hf => ?_)
        obtain ⟨x39, g38, hf⟩ := zbind hf
        refine z_callS (kc' := 0) (ks' := 0) C (MX7_cellAt (xl X) (xD X) (xT X) (xlo X) al hi g38) cw_X7_66 ys_X7_cellAt dX7_simulate_92 rfl (by decide) ⟨rfl, rfl⟩ (Nat.le_of_ble_eq_true rfl) (st := []) rfl ?_
        refine z_istore C dX7_simulate_95 (by decide) (lv' := [(8, .int x39), (7, .int ((zlushr ((x13 * (6364136223846793005 : Int64)) + (1442695040888963407 : Int64)) 33).toInt32)), (4, .long ((x13 * (6364136223846793005 : Int64)) + (1442695040888963407 : Int64))), (0, .ref x11), (3, .int x12), (6, .int x14)]) rfl ?_
        refine z_aload_n C dX7_simulate_97 3 rfl rfl ?_
        refine z_getR C fl_X7_19 dX7_simulate_98 hf (fun x40 hf => ?_)
        refine z_iload C dX7_simulate_101 0 rfl ?_
        refine z_iaload C dX7_simulate_103 hf (fun x41 hf => ?_)
        refine z_iconst C (v := 2) dX7_simulate_104 (by decide) ?_
        refine z_icmp_ne (tgt := 119) C dX7_simulate_105 (by decide) hf (fun hf => ?_) (fun hf => ?_)
        · refine z_sub [3, 4, 2, 5, 1, 0] rfl ?_
          exact kJ20 _ _ _ _ hf
        · refine z_aload_n C dX7_simulate_108 3 rfl rfl ?_
          refine z_getR C fl_X7_19 dX7_simulate_109 hf (fun x42 hf => ?_)
          refine z_iload C dX7_simulate_112 0 rfl ?_
          refine z_iconst C (v := 0) dX7_simulate_114 (by decide) ?_
          obtain ⟨x44, h45, g43, hf⟩ := zbind2 hf
          refine z_callS (kc' := 0) (ks' := 0) C (MX7_eraseOn (xl X) (xD X) (xT X) (xlo X) al hi g43) cw_X7_209 ys_X7_eraseOn dX7_simulate_115 rfl (by decide) ⟨rfl, rfl⟩ (Nat.le_of_ble_eq_true rfl) (st := []) rfl ?_
          refine z_pop C dX7_simulate_118 rfl ?_
          refine z_sub [3, 4, 2, 5, 1, 0] rfl ?_
          exact kJ20 _ _ _ _ hf
def FX7_simulate (T : zT) (a0 : Nat) (p0 : Int64) (p1 : Int32) (h : zH) : Option (Int32 × zH) := (zo h a0 7).bind fun _ => zJ (fun (x1 : Int32) (x2 : Nat) => zb2 (FX7_refused T x2 x1 h) fun x5 h6 => if x5 = 0 then ((zgr h6 a0 7 5).bind fun x7 => (zgr h6 a0 7 6).bind fun x8 => (FX7_copyPage T x7 0 x8 0 h6).bind fun h10 => LX7_simulate_45 T a0 p1 (fun (h46 : zH) => (zgr h46 a0 7 6).bind fun x47 => zb2 (FX7_allWords T a0 x47 h46) fun x49 h50 => (zgr h50 a0 7 6).bind fun x51 => (FX7_doubts T x51 h50).bind fun x53 => some (((1000 * x49) + x53), h50)) FUEL p0 0 h10) else (some (0, h6))) (fun J3 => (FX7_in T p1.toInt64 (1 : Int64) (99 : Int64) h).bind fun x55 => if x55 = 0 then (J3 1 a0) else (J3 0 a0))
set_option maxHeartbeats 4000000 in
set_option maxRecDepth 100000 in
theorem BX7_simulate {X : zX} (C : zC X cX7_simulate 9 RX7 "simulate" (some .int) 7 170) {al : Bool} {hi : Nat} {h : zH} {a0 : Nat} {p0 : Int64} {p1 : Int32} {r9 : (Int32 × zH)} (hf : FX7_simulate (xT X) a0 p0 p1 h = some r9) : zW X 9 (zZ X al (some (.int r9.1), hi, r9.2)) 0 0 al hi h 0 [(0, .ref a0), (1, .long p0), (3, .int p1)] [] := by
  unfold FX7_simulate at hf
  obtain ⟨_, _, hf⟩ := zbind hf
  refine z_join (P := fun J => ∀ (x1 : Int32) (x2 : Nat), J x1 x2 = some r9 → zW X 9 (zZ X al (some (.int r9.1), hi, r9.2)) 0 0 al hi h 18 [(0, .ref a0), (1, .long p0), (3, .int p1)] [.int x1, .ref x2]) hf ?_ ?_
  · intro x1 x2 hf
    obtain ⟨x5, h6, g4, hf⟩ := zbind2 hf
    refine z_callV (kc' := 0) (ks' := 0) C (MX7_refused (xl X) (xD X) (xT X) (xlo X) al hi g4) (OX7_refused g4) rfl cw_X7_120 yv_X7_refused dX7_simulate_18 rfl (by decide) ⟨rfl, rfl⟩ (Nat.le_of_ble_eq_true rfl) (st := []) rfl ?_
    refine z_if_eq (tgt := 26) C dX7_simulate_21 (by decide) hf (fun hf => ?_) (fun hf => ?_)
    · refine z_aload_n C dX7_simulate_26 0 rfl rfl ?_
      refine z_getR C fl_X7_16 dX7_simulate_27 hf (fun x7 hf => ?_)
      refine z_iconst C (v := 0) dX7_simulate_30 (by decide) ?_
      refine z_aload_n C dX7_simulate_31 0 rfl rfl ?_
      refine z_getR C fl_X7_19 dX7_simulate_32 hf (fun x8 hf => ?_)
      refine z_iconst C (v := 0) dX7_simulate_35 (by decide) ?_
      obtain ⟨h10, g9, hf⟩ := zbind hf
      refine z_callS (kc' := 0) (ks' := 0) C (MX7_copyPage (xl X) (xD X) (xT X) (xlo X) al hi g9) cw_X7_107 ys_X7_copyPage dX7_simulate_36 rfl (by decide) ⟨rfl, rfl⟩ (Nat.le_of_ble_eq_true rfl) (st := []) rfl ?_
      refine z_lload_n C dX7_simulate_39 1 rfl rfl ?_
      refine z_lstore C dX7_simulate_40 (by decide) (lv' := [(4, .long p0), (0, .ref a0), (1, .long p0), (3, .int p1)]) rfl ?_
      refine z_iconst C (v := 0) dX7_simulate_42 (by decide) ?_
      refine z_istore C dX7_simulate_43 (by decide) (lv' := [(6, .int 0), (4, .long p0), (0, .ref a0), (1, .long p0), (3, .int p1)]) rfl ?_
      refine z_sub [2, 4, 1, 0] rfl ?_
      refine LX7_simulate_45_ok C ?_ FUEL _ _ _ hf
      · intro h46 hf
        refine z_sipush C (v := 1000) dX7_simulate_161 (by decide) ?_
        refine z_aload_n C dX7_simulate_164 0 rfl rfl ?_
        refine z_aload_n C dX7_simulate_165 0 rfl rfl ?_
        refine z_getR C fl_X7_19 dX7_simulate_166 hf (fun x47 hf => ?_)
        obtain ⟨x49, h50, g48, hf⟩ := zbind2 hf
        refine z_callS (kc' := 0) (ks' := 0) C (MX7_allWords (xl X) (xD X) (xT X) (xlo X) al hi g48) cw_X7_228 ys_X7_allWords dX7_simulate_169 rfl (by decide) ⟨rfl, rfl⟩ (Nat.le_of_ble_eq_true rfl) (st := [.int 1000]) rfl ?_
        refine z_imul C dX7_simulate_172 ?_
        refine z_aload_n C dX7_simulate_173 0 rfl rfl ?_
        refine z_getR C fl_X7_19 dX7_simulate_174 hf (fun x51 hf => ?_)
        obtain ⟨x53, g52, hf⟩ := zbind hf
        refine z_callS (kc' := 0) (ks' := 0) C (MX7_doubts (xl X) (xD X) (xT X) (xlo X) al hi g52) cw_X7_175 ys_X7_doubts dX7_simulate_177 rfl (by decide) ⟨rfl, rfl⟩ (Nat.le_of_ble_eq_true rfl) (st := [.int (1000 * x49)]) rfl ?_
        refine z_iadd C dX7_simulate_180 ?_
        exact z_ireturn C dX7_simulate_181 (by cases hf; rfl)
    · refine z_iconst C (v := 0) dX7_simulate_24 (by decide) ?_
      exact z_ireturn C dX7_simulate_25 (by cases hf; rfl)
  · intro J3 kJ3 hf
    refine z_aload_n C dX7_simulate_0 0 rfl rfl ?_
    refine z_iload_n C dX7_simulate_1 2 rfl rfl ?_
    refine z_i2l C dX7_simulate_2 ?_
    refine z_lconst C (v := 1) dX7_simulate_3 (by decide) ?_
    refine z_ldc2 C (v := 99) mw_1320 dX7_simulate_4 ?_
    obtain ⟨x55, g54, hf⟩ := zbind hf
    refine z_callS (kc' := 0) (ks' := 0) C (MX7_in (xl X) (xD X) (xT X) (xlo X) al hi g54) cw_X7_58 ys_X7_in dX7_simulate_7 rfl (by decide) ⟨rfl, rfl⟩ (Nat.le_of_ble_eq_true rfl) (st := [.ref a0]) rfl ?_
    refine z_if_eq (tgt := 17) C dX7_simulate_10 (by decide) hf (fun hf => ?_) (fun hf => ?_)
    · refine z_iconst C (v := 1) dX7_simulate_17 (by decide) ?_
      exact kJ3 _ _ hf
    · refine z_iconst C (v := 0) dX7_simulate_13 (by decide) ?_
      refine z_goto (tgt := 18) C dX7_simulate_14 (by decide) ?_
      exact kJ3 _ _ hf
theorem MX7_simulate (l : Launch) (D : va_G) (T : zT) (lo : Nat) (al : Bool) (hi : Nat) {h : zH} {a0 : Nat} {p0 : Int64} {p1 : Int32} {v9 : Int32} {h9 : zH} (hf : FX7_simulate T a0 p0 p1 h = some (v9, h9)) : zM l yX7_simulate (.code yX7_simulate cX7_simulate 9 (some .int) :: TW) ({ frames := 7, cells := 0, slots := 0, locals := 170 } : Room) D T lo al [.ref a0, .long p0, .int p1] hi h (some (.int v9), hi, h9) :=
  z_enter (own := RX7) (nm := "simulate") (lv := [(0, .ref a0), (1, .long p0), (3, .int p1)]) (by decide +kernel) rfl rfl (Nat.le_of_ble_eq_true rfl) rfl (fun _ _ _ _ _ _ _ _ C => BX7_simulate C hf)
theorem OX7_simulate {T : zT} {h : zH} {a0 : Nat} {p0 : Int64} {p1 : Int32} {r9 : (Int32 × zH)} (hf : FX7_simulate T a0 p0 p1 h = some r9) : ∃ fs, h a0 = some (.inr (7, fs)) := by
  obtain ⟨_, h1, _⟩ := zbind hf
  exact zo_obj h1
theorem dX7_save_0 : decode cX7_save 0 = .ok (.aload_n 0, 1) := by decide +kernel
theorem dX7_save_1 : decode cX7_save 1 = .ok (.iload_n 1, 1) := by decide +kernel
theorem dX7_save_2 : decode cX7_save 2 = .ok (.i2l, 1) := by decide +kernel
theorem dX7_save_3 : decode cX7_save 3 = .ok (.lconst 0, 1) := by decide +kernel
theorem dX7_save_4 : decode cX7_save 4 = .ok (.lconst 1, 1) := by decide +kernel
theorem dX7_save_5 : decode cX7_save 5 = .ok (.invokestatic 58, 3) := by decide +kernel
theorem dX7_save_8 : decode cX7_save 8 = .ok (.ifCond .eq 7, 3) := by decide +kernel
theorem dX7_save_11 : decode cX7_save 11 = .ok (.iconst 0, 1) := by decide +kernel
theorem dX7_save_12 : decode cX7_save 12 = .ok (.goto 4, 3) := by decide +kernel
theorem dX7_save_15 : decode cX7_save 15 = .ok (.iconst 1, 1) := by decide +kernel
theorem dX7_save_16 : decode cX7_save 16 = .ok (.invokevirtual 120, 3) := by decide +kernel
theorem dX7_save_19 : decode cX7_save 19 = .ok (.ifCond .eq 5, 3) := by decide +kernel
theorem dX7_save_22 : decode cX7_save 22 = .ok (.iconst 0, 1) := by decide +kernel
theorem dX7_save_23 : decode cX7_save 23 = .ok (.ireturn, 1) := by decide +kernel
theorem dX7_save_24 : decode cX7_save 24 = .ok (.aload_n 0, 1) := by decide +kernel
theorem dX7_save_25 : decode cX7_save 25 = .ok (.getfield 31, 3) := by decide +kernel
theorem dX7_save_28 : decode cX7_save 28 = .ok (.iload_n 1, 1) := by decide +kernel
theorem dX7_save_29 : decode cX7_save 29 = .ok (.iconst 1, 1) := by decide +kernel
theorem dX7_save_30 : decode cX7_save 30 = .ok (.bastore, 1) := by decide +kernel
theorem dX7_save_31 : decode cX7_save 31 = .ok (.aload_n 0, 1) := by decide +kernel
theorem dX7_save_32 : decode cX7_save 32 = .ok (.getfield 16, 3) := by decide +kernel
theorem dX7_save_35 : decode cX7_save 35 = .ok (.iconst 0, 1) := by decide +kernel
theorem dX7_save_36 : decode cX7_save 36 = .ok (.aload_n 0, 1) := by decide +kernel
theorem dX7_save_37 : decode cX7_save 37 = .ok (.getfield 28, 3) := by decide +kernel
theorem dX7_save_40 : decode cX7_save 40 = .ok (.sipush 739, 3) := by decide +kernel
theorem dX7_save_43 : decode cX7_save 43 = .ok (.iload_n 1, 1) := by decide +kernel
theorem dX7_save_44 : decode cX7_save 44 = .ok (.imul, 1) := by decide +kernel
theorem dX7_save_45 : decode cX7_save 45 = .ok (.invokestatic 107, 3) := by decide +kernel
theorem dX7_save_48 : decode cX7_save 48 = .ok (.aload_n 0, 1) := by decide +kernel
theorem dX7_save_49 : decode cX7_save 49 = .ok (.getfield 16, 3) := by decide +kernel
theorem dX7_save_52 : decode cX7_save 52 = .ok (.invokestatic 171, 3) := by decide +kernel
theorem dX7_save_55 : decode cX7_save 55 = .ok (.ireturn, 1) := by decide +kernel
def FX7_save (T : zT) (a0 : Nat) (p0 : Int32) (h : zH) : Option (Int32 × zH) := (zo h a0 7).bind fun _ => zJ (fun (x1 : Int32) (x2 : Nat) => zb2 (FX7_refused T x2 x1 h) fun x5 h6 => if x5 = 0 then ((zgr h6 a0 7 11).bind fun x7 => (zbs T h6 x7 p0 1).bind fun h8 => (zgr h8 a0 7 5).bind fun x9 => (zgr h8 a0 7 10).bind fun x10 => (FX7_copyPage T x9 0 x10 (739 * p0) h8).bind fun h12 => (zgr h12 a0 7 5).bind fun x13 => (FX7_marksOf T x13 h12).bind fun x15 => some (x15, h12)) else (some (0, h6))) (fun J3 => (FX7_in T p0.toInt64 (0 : Int64) (1 : Int64) h).bind fun x17 => if x17 = 0 then (J3 1 a0) else (J3 0 a0))
set_option maxHeartbeats 4000000 in
set_option maxRecDepth 100000 in
theorem BX7_save {X : zX} (C : zC X cX7_save 2 RX7 "save" (some .int) 1 25) {al : Bool} {hi : Nat} {h : zH} {a0 : Nat} {p0 : Int32} {r9 : (Int32 × zH)} (hf : FX7_save (xT X) a0 p0 h = some r9) : zW X 2 (zZ X al (some (.int r9.1), hi, r9.2)) 0 0 al hi h 0 [(0, .ref a0), (1, .int p0)] [] := by
  unfold FX7_save at hf
  obtain ⟨_, _, hf⟩ := zbind hf
  refine z_join (P := fun J => ∀ (x1 : Int32) (x2 : Nat), J x1 x2 = some r9 → zW X 2 (zZ X al (some (.int r9.1), hi, r9.2)) 0 0 al hi h 16 [(0, .ref a0), (1, .int p0)] [.int x1, .ref x2]) hf ?_ ?_
  · intro x1 x2 hf
    obtain ⟨x5, h6, g4, hf⟩ := zbind2 hf
    refine z_callV (kc' := 0) (ks' := 0) C (MX7_refused (xl X) (xD X) (xT X) (xlo X) al hi g4) (OX7_refused g4) rfl cw_X7_120 yv_X7_refused dX7_save_16 rfl (by decide) ⟨rfl, rfl⟩ (Nat.le_of_ble_eq_true rfl) (st := []) rfl ?_
    refine z_if_eq (tgt := 24) C dX7_save_19 (by decide) hf (fun hf => ?_) (fun hf => ?_)
    · refine z_aload_n C dX7_save_24 0 rfl rfl ?_
      refine z_getR C fl_X7_31 dX7_save_25 hf (fun x7 hf => ?_)
      refine z_iload_n C dX7_save_28 1 rfl rfl ?_
      refine z_iconst C (v := 1) dX7_save_29 (by decide) ?_
      refine z_bastore C dX7_save_30 hf (fun h8 hf => ?_)
      refine z_aload_n C dX7_save_31 0 rfl rfl ?_
      refine z_getR C fl_X7_16 dX7_save_32 hf (fun x9 hf => ?_)
      refine z_iconst C (v := 0) dX7_save_35 (by decide) ?_
      refine z_aload_n C dX7_save_36 0 rfl rfl ?_
      refine z_getR C fl_X7_28 dX7_save_37 hf (fun x10 hf => ?_)
      refine z_sipush C (v := 739) dX7_save_40 (by decide) ?_
      refine z_iload_n C dX7_save_43 1 rfl rfl ?_
      refine z_imul C dX7_save_44 ?_
      obtain ⟨h12, g11, hf⟩ := zbind hf
      refine z_callS (kc' := 0) (ks' := 0) C (MX7_copyPage (xl X) (xD X) (xT X) (xlo X) al hi g11) cw_X7_107 ys_X7_copyPage dX7_save_45 rfl (by decide) ⟨rfl, rfl⟩ (Nat.le_of_ble_eq_true rfl) (st := []) rfl ?_
      refine z_aload_n C dX7_save_48 0 rfl rfl ?_
      refine z_getR C fl_X7_16 dX7_save_49 hf (fun x13 hf => ?_)
      obtain ⟨x15, g14, hf⟩ := zbind hf
      refine z_callS (kc' := 0) (ks' := 0) C (MX7_marksOf (xl X) (xD X) (xT X) (xlo X) al hi g14) cw_X7_171 ys_X7_marksOf dX7_save_52 rfl (by decide) ⟨rfl, rfl⟩ (Nat.le_of_ble_eq_true rfl) (st := []) rfl ?_
      exact z_ireturn C dX7_save_55 (by cases hf; rfl)
    · refine z_iconst C (v := 0) dX7_save_22 (by decide) ?_
      exact z_ireturn C dX7_save_23 (by cases hf; rfl)
  · intro J3 kJ3 hf
    refine z_aload_n C dX7_save_0 0 rfl rfl ?_
    refine z_iload_n C dX7_save_1 1 rfl rfl ?_
    refine z_i2l C dX7_save_2 ?_
    refine z_lconst C (v := 0) dX7_save_3 (by decide) ?_
    refine z_lconst C (v := 1) dX7_save_4 (by decide) ?_
    obtain ⟨x17, g16, hf⟩ := zbind hf
    refine z_callS (kc' := 0) (ks' := 0) C (MX7_in (xl X) (xD X) (xT X) (xlo X) al hi g16) cw_X7_58 ys_X7_in dX7_save_5 rfl (by decide) ⟨rfl, rfl⟩ (Nat.le_of_ble_eq_true rfl) (st := [.ref a0]) rfl ?_
    refine z_if_eq (tgt := 15) C dX7_save_8 (by decide) hf (fun hf => ?_) (fun hf => ?_)
    · refine z_iconst C (v := 1) dX7_save_15 (by decide) ?_
      exact kJ3 _ _ hf
    · refine z_iconst C (v := 0) dX7_save_11 (by decide) ?_
      refine z_goto (tgt := 16) C dX7_save_12 (by decide) ?_
      exact kJ3 _ _ hf
theorem MX7_save (l : Launch) (D : va_G) (T : zT) (lo : Nat) (al : Bool) (hi : Nat) {h : zH} {a0 : Nat} {p0 : Int32} {v9 : Int32} {h9 : zH} (hf : FX7_save T a0 p0 h = some (v9, h9)) : zM l yX7_save (.code yX7_save cX7_save 2 (some .int) :: TW) ({ frames := 1, cells := 0, slots := 0, locals := 25 } : Room) D T lo al [.ref a0, .int p0] hi h (some (.int v9), hi, h9) :=
  z_enter (own := RX7) (nm := "save") (lv := [(0, .ref a0), (1, .int p0)]) (by decide +kernel) rfl rfl (Nat.le_of_ble_eq_true rfl) rfl (fun _ _ _ _ _ _ _ _ C => BX7_save C hf)
theorem OX7_save {T : zT} {h : zH} {a0 : Nat} {p0 : Int32} {r9 : (Int32 × zH)} (hf : FX7_save T a0 p0 h = some r9) : ∃ fs, h a0 = some (.inr (7, fs)) := by
  obtain ⟨_, h1, _⟩ := zbind hf
  exact zo_obj h1
theorem dX7_restore_0 : decode cX7_restore 0 = .ok (.aload_n 0, 1) := by decide +kernel
theorem dX7_restore_1 : decode cX7_restore 1 = .ok (.iload_n 1, 1) := by decide +kernel
theorem dX7_restore_2 : decode cX7_restore 2 = .ok (.i2l, 1) := by decide +kernel
theorem dX7_restore_3 : decode cX7_restore 3 = .ok (.lconst 0, 1) := by decide +kernel
theorem dX7_restore_4 : decode cX7_restore 4 = .ok (.lconst 1, 1) := by decide +kernel
theorem dX7_restore_5 : decode cX7_restore 5 = .ok (.invokestatic 58, 3) := by decide +kernel
theorem dX7_restore_8 : decode cX7_restore 8 = .ok (.ifCond .ne 7, 3) := by decide +kernel
theorem dX7_restore_11 : decode cX7_restore 11 = .ok (.iconst 1, 1) := by decide +kernel
theorem dX7_restore_12 : decode cX7_restore 12 = .ok (.goto 17, 3) := by decide +kernel
theorem dX7_restore_15 : decode cX7_restore 15 = .ok (.aload_n 0, 1) := by decide +kernel
theorem dX7_restore_16 : decode cX7_restore 16 = .ok (.getfield 31, 3) := by decide +kernel
theorem dX7_restore_19 : decode cX7_restore 19 = .ok (.iload_n 1, 1) := by decide +kernel
theorem dX7_restore_20 : decode cX7_restore 20 = .ok (.baload, 1) := by decide +kernel
theorem dX7_restore_21 : decode cX7_restore 21 = .ok (.ifCond .ne 7, 3) := by decide +kernel
theorem dX7_restore_24 : decode cX7_restore 24 = .ok (.iconst 2, 1) := by decide +kernel
theorem dX7_restore_25 : decode cX7_restore 25 = .ok (.goto 4, 3) := by decide +kernel
theorem dX7_restore_28 : decode cX7_restore 28 = .ok (.iconst 0, 1) := by decide +kernel
theorem dX7_restore_29 : decode cX7_restore 29 = .ok (.invokevirtual 120, 3) := by decide +kernel
theorem dX7_restore_32 : decode cX7_restore 32 = .ok (.ifCond .eq 5, 3) := by decide +kernel
theorem dX7_restore_35 : decode cX7_restore 35 = .ok (.iconst 0, 1) := by decide +kernel
theorem dX7_restore_36 : decode cX7_restore 36 = .ok (.ireturn, 1) := by decide +kernel
theorem dX7_restore_37 : decode cX7_restore 37 = .ok (.aload_n 0, 1) := by decide +kernel
theorem dX7_restore_38 : decode cX7_restore 38 = .ok (.getfield 28, 3) := by decide +kernel
theorem dX7_restore_41 : decode cX7_restore 41 = .ok (.sipush 739, 3) := by decide +kernel
theorem dX7_restore_44 : decode cX7_restore 44 = .ok (.iload_n 1, 1) := by decide +kernel
theorem dX7_restore_45 : decode cX7_restore 45 = .ok (.imul, 1) := by decide +kernel
theorem dX7_restore_46 : decode cX7_restore 46 = .ok (.aload_n 0, 1) := by decide +kernel
theorem dX7_restore_47 : decode cX7_restore 47 = .ok (.getfield 16, 3) := by decide +kernel
theorem dX7_restore_50 : decode cX7_restore 50 = .ok (.iconst 0, 1) := by decide +kernel
theorem dX7_restore_51 : decode cX7_restore 51 = .ok (.invokestatic 107, 3) := by decide +kernel
theorem dX7_restore_54 : decode cX7_restore 54 = .ok (.aload_n 0, 1) := by decide +kernel
theorem dX7_restore_55 : decode cX7_restore 55 = .ok (.iconst 0, 1) := by decide +kernel
theorem dX7_restore_56 : decode cX7_restore 56 = .ok (.putfield 168, 3) := by decide +kernel
theorem dX7_restore_59 : decode cX7_restore 59 = .ok (.aload_n 0, 1) := by decide +kernel
theorem dX7_restore_60 : decode cX7_restore 60 = .ok (.getfield 16, 3) := by decide +kernel
theorem dX7_restore_63 : decode cX7_restore 63 = .ok (.invokestatic 171, 3) := by decide +kernel
theorem dX7_restore_66 : decode cX7_restore 66 = .ok (.ireturn, 1) := by decide +kernel
def FX7_restore (T : zT) (a0 : Nat) (p0 : Int32) (h : zH) : Option (Int32 × zH) := (zo h a0 7).bind fun _ => zJ (fun (x1 : Int32) (x2 : Nat) => zb2 (FX7_refused T x2 x1 h) fun x5 h6 => if x5 = 0 then ((zgr h6 a0 7 10).bind fun x7 => (zgr h6 a0 7 5).bind fun x8 => (FX7_copyPage T x7 (739 * p0) x8 0 h6).bind fun h10 => (zpv h10 a0 7 9 (.int 0)).bind fun h11 => (zgr h11 a0 7 5).bind fun x12 => (FX7_marksOf T x12 h11).bind fun x14 => some (x14, h11)) else (some (0, h6))) (fun J3 => (FX7_in T p0.toInt64 (0 : Int64) (1 : Int64) h).bind fun x16 => if x16 = 0 then (J3 1 a0) else ((zgr h a0 7 11).bind fun x17 => (zbi T h x17 p0).bind fun x18 => if x18 = 0 then (J3 2 a0) else (J3 0 a0)))
set_option maxHeartbeats 4000000 in
set_option maxRecDepth 100000 in
theorem BX7_restore {X : zX} (C : zC X cX7_restore 2 RX7 "restore" (some .int) 1 25) {al : Bool} {hi : Nat} {h : zH} {a0 : Nat} {p0 : Int32} {r9 : (Int32 × zH)} (hf : FX7_restore (xT X) a0 p0 h = some r9) : zW X 2 (zZ X al (some (.int r9.1), hi, r9.2)) 0 0 al hi h 0 [(0, .ref a0), (1, .int p0)] [] := by
  unfold FX7_restore at hf
  obtain ⟨_, _, hf⟩ := zbind hf
  refine z_join (P := fun J => ∀ (x1 : Int32) (x2 : Nat), J x1 x2 = some r9 → zW X 2 (zZ X al (some (.int r9.1), hi, r9.2)) 0 0 al hi h 29 [(0, .ref a0), (1, .int p0)] [.int x1, .ref x2]) hf ?_ ?_
  · intro x1 x2 hf
    obtain ⟨x5, h6, g4, hf⟩ := zbind2 hf
    refine z_callV (kc' := 0) (ks' := 0) C (MX7_refused (xl X) (xD X) (xT X) (xlo X) al hi g4) (OX7_refused g4) rfl cw_X7_120 yv_X7_refused dX7_restore_29 rfl (by decide) ⟨rfl, rfl⟩ (Nat.le_of_ble_eq_true rfl) (st := []) rfl ?_
    refine z_if_eq (tgt := 37) C dX7_restore_32 (by decide) hf (fun hf => ?_) (fun hf => ?_)
    · refine z_aload_n C dX7_restore_37 0 rfl rfl ?_
      refine z_getR C fl_X7_28 dX7_restore_38 hf (fun x7 hf => ?_)
      refine z_sipush C (v := 739) dX7_restore_41 (by decide) ?_
      refine z_iload_n C dX7_restore_44 1 rfl rfl ?_
      refine z_imul C dX7_restore_45 ?_
      refine z_aload_n C dX7_restore_46 0 rfl rfl ?_
      refine z_getR C fl_X7_16 dX7_restore_47 hf (fun x8 hf => ?_)
      refine z_iconst C (v := 0) dX7_restore_50 (by decide) ?_
      obtain ⟨h10, g9, hf⟩ := zbind hf
      refine z_callS (kc' := 0) (ks' := 0) C (MX7_copyPage (xl X) (xD X) (xT X) (xlo X) al hi g9) cw_X7_107 ys_X7_copyPage dX7_restore_51 rfl (by decide) ⟨rfl, rfl⟩ (Nat.le_of_ble_eq_true rfl) (st := []) rfl ?_
      refine z_aload_n C dX7_restore_54 0 rfl rfl ?_
      refine z_iconst C (v := 0) dX7_restore_55 (by decide) ?_
      refine z_put C fl_X7_168 dX7_restore_56 rfl rfl hf (fun h11 hf => ?_)
      refine z_aload_n C dX7_restore_59 0 rfl rfl ?_
      refine z_getR C fl_X7_16 dX7_restore_60 hf (fun x12 hf => ?_)
      obtain ⟨x14, g13, hf⟩ := zbind hf
      refine z_callS (kc' := 0) (ks' := 0) C (MX7_marksOf (xl X) (xD X) (xT X) (xlo X) al hi g13) cw_X7_171 ys_X7_marksOf dX7_restore_63 rfl (by decide) ⟨rfl, rfl⟩ (Nat.le_of_ble_eq_true rfl) (st := []) rfl ?_
      exact z_ireturn C dX7_restore_66 (by cases hf; rfl)
    · refine z_iconst C (v := 0) dX7_restore_35 (by decide) ?_
      exact z_ireturn C dX7_restore_36 (by cases hf; rfl)
  · intro J3 kJ3 hf
    refine z_aload_n C dX7_restore_0 0 rfl rfl ?_
    refine z_iload_n C dX7_restore_1 1 rfl rfl ?_
    refine z_i2l C dX7_restore_2 ?_
    refine z_lconst C (v := 0) dX7_restore_3 (by decide) ?_
    refine z_lconst C (v := 1) dX7_restore_4 (by decide) ?_
    obtain ⟨x16, g15, hf⟩ := zbind hf
    refine z_callS (kc' := 0) (ks' := 0) C (MX7_in (xl X) (xD X) (xT X) (xlo X) al hi g15) cw_X7_58 ys_X7_in dX7_restore_5 rfl (by decide) ⟨rfl, rfl⟩ (Nat.le_of_ble_eq_true rfl) (st := [.ref a0]) rfl ?_
    refine z_if_ne (tgt := 15) C dX7_restore_8 (by decide) hf (fun hf => ?_) (fun hf => ?_)
    · refine z_aload_n C dX7_restore_15 0 rfl rfl ?_
      refine z_getR C fl_X7_31 dX7_restore_16 hf (fun x17 hf => ?_)
      refine z_iload_n C dX7_restore_19 1 rfl rfl ?_
      refine z_baload C dX7_restore_20 hf (fun x18 hf => ?_)
      refine z_if_ne (tgt := 28) C dX7_restore_21 (by decide) hf (fun hf => ?_) (fun hf => ?_)
      · refine z_iconst C (v := 0) dX7_restore_28 (by decide) ?_
        exact kJ3 _ _ hf
      · refine z_iconst C (v := 2) dX7_restore_24 (by decide) ?_
        refine z_goto (tgt := 29) C dX7_restore_25 (by decide) ?_
        exact kJ3 _ _ hf
    · refine z_iconst C (v := 1) dX7_restore_11 (by decide) ?_
      refine z_goto (tgt := 29) C dX7_restore_12 (by decide) ?_
      exact kJ3 _ _ hf
theorem MX7_restore (l : Launch) (D : va_G) (T : zT) (lo : Nat) (al : Bool) (hi : Nat) {h : zH} {a0 : Nat} {p0 : Int32} {v9 : Int32} {h9 : zH} (hf : FX7_restore T a0 p0 h = some (v9, h9)) : zM l yX7_restore (.code yX7_restore cX7_restore 2 (some .int) :: TW) ({ frames := 1, cells := 0, slots := 0, locals := 25 } : Room) D T lo al [.ref a0, .int p0] hi h (some (.int v9), hi, h9) :=
  z_enter (own := RX7) (nm := "restore") (lv := [(0, .ref a0), (1, .int p0)]) (by decide +kernel) rfl rfl (Nat.le_of_ble_eq_true rfl) rfl (fun _ _ _ _ _ _ _ _ C => BX7_restore C hf)
theorem OX7_restore {T : zT} {h : zH} {a0 : Nat} {p0 : Int32} {r9 : (Int32 × zH)} (hf : FX7_restore T a0 p0 h = some r9) : ∃ fs, h a0 = some (.inr (7, fs)) := by
  obtain ⟨_, h1, _⟩ := zbind hf
  exact zo_obj h1
