theorem mw_476 : (Jvm.Cond.constantLong "CrossedSheetLaw" (178 : Nat) (131 : Int64)) ∈ TW := TWm 476 (by decide +kernel) (by decide +kernel)
theorem mw_477 : (Jvm.Cond.methodLink "CrossedSheetLaw" (180 : Nat) ({ cls := "CrossedSheetLaw", name := "about", desc := "(LCrossedSheet;I)I" } : Jvm.MethodName)) ∈ TW := TWm 477 (by decide +kernel) (by decide +kernel)
theorem mw_478 : (Jvm.Cond.static ({ cls := "CrossedSheetLaw", name := "about", desc := "(LCrossedSheet;I)I" } : Jvm.MethodName)) ∈ TW := TWm 478 (by decide +kernel) (by decide +kernel)
theorem mw_479 : (Jvm.Cond.code ({ cls := "CrossedSheetLaw", name := "about", desc := "(LCrossedSheet;I)I" } : Jvm.MethodName) method_29_code (2 : Nat) (Option.some Jvm.ClassFile.FieldType.int)) ∈ TW := TWm 479 (by decide +kernel) (by decide +kernel)
theorem ys_L_about : yL_about.cls ≠ "java/lang/invoke/MethodHandle" ∧ yL_about.cls ≠ "java/lang/invoke/VarHandle" ∧ (parseMethodDescriptor yL_about.desc).map (fun d => d.parameters.length) = some 2 := by decide +kernel
theorem cw_L_180 : GoodIn TW (va_wsS RL 180 yL_about (.code yL_about cL_about 2 (some .int) :: TW)) := zGS mw_477 mw_478 mw_25 mw_479
theorem dL_sum_0 : decode cL_sum 0 = .ok (.lconst 0, 1) := by decide +kernel
theorem dL_sum_1 : decode cL_sum 1 = .ok (.lstore_n 1, 1) := by decide +kernel
theorem dL_sum_2 : decode cL_sum 2 = .ok (.iconst 0, 1) := by decide +kernel
theorem dL_sum_3 : decode cL_sum 3 = .ok (.istore_n 3, 1) := by decide +kernel
theorem dL_sum_4 : decode cL_sum 4 = .ok (.iload_n 3, 1) := by decide +kernel
theorem dL_sum_5 : decode cL_sum 5 = .ok (.bipush 10, 2) := by decide +kernel
theorem dL_sum_7 : decode cL_sum 7 = .ok (.if_icmp .ge 22, 3) := by decide +kernel
theorem dL_sum_10 : decode cL_sum 10 = .ok (.ldc2_w 178, 3) := by decide +kernel
theorem dL_sum_13 : decode cL_sum 13 = .ok (.lload_n 1, 1) := by decide +kernel
theorem dL_sum_14 : decode cL_sum 14 = .ok (.lmul, 1) := by decide +kernel
theorem dL_sum_15 : decode cL_sum 15 = .ok (.aload_n 0, 1) := by decide +kernel
theorem dL_sum_16 : decode cL_sum 16 = .ok (.iload_n 3, 1) := by decide +kernel
theorem dL_sum_17 : decode cL_sum 17 = .ok (.invokestatic 180, 3) := by decide +kernel
theorem dL_sum_20 : decode cL_sum 20 = .ok (.i2l, 1) := by decide +kernel
theorem dL_sum_21 : decode cL_sum 21 = .ok (.ladd, 1) := by decide +kernel
theorem dL_sum_22 : decode cL_sum 22 = .ok (.lstore_n 1, 1) := by decide +kernel
theorem dL_sum_23 : decode cL_sum 23 = .ok (.iinc 3 1, 3) := by decide +kernel
theorem dL_sum_26 : decode cL_sum 26 = .ok (.goto (-22), 3) := by decide +kernel
theorem dL_sum_29 : decode cL_sum 29 = .ok (.iconst 0, 1) := by decide +kernel
theorem dL_sum_30 : decode cL_sum 30 = .ok (.istore_n 3, 1) := by decide +kernel
theorem dL_sum_31 : decode cL_sum 31 = .ok (.iload_n 3, 1) := by decide +kernel
theorem dL_sum_32 : decode cL_sum 32 = .ok (.bipush 10, 2) := by decide +kernel
theorem dL_sum_34 : decode cL_sum 34 = .ok (.if_icmp .ge 30, 3) := by decide +kernel
theorem dL_sum_37 : decode cL_sum 37 = .ok (.ldc2_w 178, 3) := by decide +kernel
theorem dL_sum_40 : decode cL_sum 40 = .ok (.lload_n 1, 1) := by decide +kernel
theorem dL_sum_41 : decode cL_sum 41 = .ok (.lmul, 1) := by decide +kernel
theorem dL_sum_42 : decode cL_sum 42 = .ok (.aload_n 0, 1) := by decide +kernel
theorem dL_sum_43 : decode cL_sum 43 = .ok (.iconst 3, 1) := by decide +kernel
theorem dL_sum_44 : decode cL_sum 44 = .ok (.iload_n 3, 1) := by decide +kernel
theorem dL_sum_45 : decode cL_sum 45 = .ok (.iconst 5, 1) := by decide +kernel
theorem dL_sum_46 : decode cL_sum 46 = .ok (.idiv, 1) := by decide +kernel
theorem dL_sum_47 : decode cL_sum 47 = .ok (.iload_n 3, 1) := by decide +kernel
theorem dL_sum_48 : decode cL_sum 48 = .ok (.iconst 5, 1) := by decide +kernel
theorem dL_sum_49 : decode cL_sum 49 = .ok (.irem, 1) := by decide +kernel
theorem dL_sum_50 : decode cL_sum 50 = .ok (.iconst 0, 1) := by decide +kernel
theorem dL_sum_51 : decode cL_sum 51 = .ok (.iconst 0, 1) := by decide +kernel
theorem dL_sum_52 : decode cL_sum 52 = .ok (.invokestatic 174, 3) := by decide +kernel
theorem dL_sum_55 : decode cL_sum 55 = .ok (.i2l, 1) := by decide +kernel
theorem dL_sum_56 : decode cL_sum 56 = .ok (.ladd, 1) := by decide +kernel
theorem dL_sum_57 : decode cL_sum 57 = .ok (.lstore_n 1, 1) := by decide +kernel
theorem dL_sum_58 : decode cL_sum 58 = .ok (.iinc 3 1, 3) := by decide +kernel
theorem dL_sum_61 : decode cL_sum 61 = .ok (.goto (-30), 3) := by decide +kernel
theorem dL_sum_64 : decode cL_sum 64 = .ok (.iconst 0, 1) := by decide +kernel
theorem dL_sum_65 : decode cL_sum 65 = .ok (.istore_n 3, 1) := by decide +kernel
theorem dL_sum_66 : decode cL_sum 66 = .ok (.iload_n 3, 1) := by decide +kernel
theorem dL_sum_67 : decode cL_sum 67 = .ok (.aload_n 0, 1) := by decide +kernel
theorem dL_sum_68 : decode cL_sum 68 = .ok (.iconst 1, 1) := by decide +kernel
theorem dL_sum_69 : decode cL_sum 69 = .ok (.invokestatic 180, 3) := by decide +kernel
theorem dL_sum_72 : decode cL_sum 72 = .ok (.if_icmp .ge 100, 3) := by decide +kernel
theorem dL_sum_75 : decode cL_sum 75 = .ok (.iconst 0, 1) := by decide +kernel
theorem dL_sum_76 : decode cL_sum 76 = .ok (.istore 4, 2) := by decide +kernel
theorem dL_sum_78 : decode cL_sum 78 = .ok (.iload 4, 2) := by decide +kernel
theorem dL_sum_80 : decode cL_sum 80 = .ok (.aload_n 0, 1) := by decide +kernel
theorem dL_sum_81 : decode cL_sum 81 = .ok (.iconst 0, 1) := by decide +kernel
theorem dL_sum_82 : decode cL_sum 82 = .ok (.invokestatic 180, 3) := by decide +kernel
theorem dL_sum_85 : decode cL_sum 85 = .ok (.if_icmp .ge 81, 3) := by decide +kernel
theorem dL_sum_88 : decode cL_sum 88 = .ok (.iconst 0, 1) := by decide +kernel
theorem dL_sum_89 : decode cL_sum 89 = .ok (.istore 5, 2) := by decide +kernel
theorem dL_sum_91 : decode cL_sum 91 = .ok (.iload 5, 2) := by decide +kernel
theorem dL_sum_93 : decode cL_sum 93 = .ok (.aload_n 0, 1) := by decide +kernel
theorem dL_sum_94 : decode cL_sum 94 = .ok (.iconst 4, 1) := by decide +kernel
theorem dL_sum_95 : decode cL_sum 95 = .ok (.iload 4, 2) := by decide +kernel
theorem dL_sum_97 : decode cL_sum 97 = .ok (.iload_n 3, 1) := by decide +kernel
theorem dL_sum_98 : decode cL_sum 98 = .ok (.iconst 0, 1) := by decide +kernel
theorem dL_sum_99 : decode cL_sum 99 = .ok (.iconst 0, 1) := by decide +kernel
theorem dL_sum_100 : decode cL_sum 100 = .ok (.invokestatic 174, 3) := by decide +kernel
theorem dL_sum_103 : decode cL_sum 103 = .ok (.if_icmp .ge 57, 3) := by decide +kernel
theorem dL_sum_106 : decode cL_sum 106 = .ok (.iconst 0, 1) := by decide +kernel
theorem dL_sum_107 : decode cL_sum 107 = .ok (.istore 6, 2) := by decide +kernel
theorem dL_sum_109 : decode cL_sum 109 = .ok (.iload 6, 2) := by decide +kernel
theorem dL_sum_111 : decode cL_sum 111 = .ok (.bipush 8, 2) := by decide +kernel
theorem dL_sum_113 : decode cL_sum 113 = .ok (.if_icmp .ge 41, 3) := by decide +kernel
theorem dL_sum_116 : decode cL_sum 116 = .ok (.ldc2_w 178, 3) := by decide +kernel
theorem dL_sum_119 : decode cL_sum 119 = .ok (.lload_n 1, 1) := by decide +kernel
theorem dL_sum_120 : decode cL_sum 120 = .ok (.lmul, 1) := by decide +kernel
theorem dL_sum_121 : decode cL_sum 121 = .ok (.aload_n 0, 1) := by decide +kernel
theorem dL_sum_122 : decode cL_sum 122 = .ok (.iconst 5, 1) := by decide +kernel
theorem dL_sum_123 : decode cL_sum 123 = .ok (.iload 4, 2) := by decide +kernel
theorem dL_sum_125 : decode cL_sum 125 = .ok (.iload_n 3, 1) := by decide +kernel
theorem dL_sum_126 : decode cL_sum 126 = .ok (.iload 5, 2) := by decide +kernel
theorem dL_sum_128 : decode cL_sum 128 = .ok (.iload 6, 2) := by decide +kernel
theorem dL_sum_130 : decode cL_sum 130 = .ok (.invokestatic 174, 3) := by decide +kernel
theorem dL_sum_133 : decode cL_sum 133 = .ok (.i2l, 1) := by decide +kernel
theorem dL_sum_134 : decode cL_sum 134 = .ok (.ladd, 1) := by decide +kernel
theorem dL_sum_135 : decode cL_sum 135 = .ok (.bipush 7, 2) := by decide +kernel
theorem dL_sum_137 : decode cL_sum 137 = .ok (.iload 4, 2) := by decide +kernel
theorem dL_sum_139 : decode cL_sum 139 = .ok (.imul, 1) := by decide +kernel
theorem dL_sum_140 : decode cL_sum 140 = .ok (.i2l, 1) := by decide +kernel
theorem dL_sum_141 : decode cL_sum 141 = .ok (.ladd, 1) := by decide +kernel
theorem dL_sum_142 : decode cL_sum 142 = .ok (.iconst 3, 1) := by decide +kernel
theorem dL_sum_143 : decode cL_sum 143 = .ok (.iload_n 3, 1) := by decide +kernel
theorem dL_sum_144 : decode cL_sum 144 = .ok (.imul, 1) := by decide +kernel
theorem dL_sum_145 : decode cL_sum 145 = .ok (.i2l, 1) := by decide +kernel
theorem dL_sum_146 : decode cL_sum 146 = .ok (.ladd, 1) := by decide +kernel
theorem dL_sum_147 : decode cL_sum 147 = .ok (.lstore_n 1, 1) := by decide +kernel
theorem dL_sum_148 : decode cL_sum 148 = .ok (.iinc 6 1, 3) := by decide +kernel
theorem dL_sum_151 : decode cL_sum 151 = .ok (.goto (-42), 3) := by decide +kernel
theorem dL_sum_154 : decode cL_sum 154 = .ok (.iinc 5 1, 3) := by decide +kernel
theorem dL_sum_157 : decode cL_sum 157 = .ok (.goto (-66), 3) := by decide +kernel
theorem dL_sum_160 : decode cL_sum 160 = .ok (.iinc 4 1, 3) := by decide +kernel
theorem dL_sum_163 : decode cL_sum 163 = .ok (.goto (-85), 3) := by decide +kernel
theorem dL_sum_166 : decode cL_sum 166 = .ok (.iinc 3 1, 3) := by decide +kernel
theorem dL_sum_169 : decode cL_sum 169 = .ok (.goto (-103), 3) := by decide +kernel
theorem dL_sum_172 : decode cL_sum 172 = .ok (.lload_n 1, 1) := by decide +kernel
theorem dL_sum_173 : decode cL_sum 173 = .ok (.lreturn, 1) := by decide +kernel
def LL_sum_4 {ρ : Type} (T : zT) (x1 : Nat) (K0 : Int64 → zH → Option (ρ × zH × Nat)) : Nat → Int64 → Int32 → zH → Option (ρ × zH × Nat)
  | 0, _, _, _ => none
  | k + 1, x2, x3, h4 => if 10 ≤ x3 then (K0 x2 h4) else (zcl (FL_about T x1 x3 h4) fun x6 h7 => LL_sum_4 T x1 K0 k (((131 : Int64) * x2) + x6.toInt64) (x3 + 1) h7)
set_option maxHeartbeats 4000000 in
set_option maxRecDepth 100000 in
theorem LL_sum_4_ok {X : zX} (CL : zCL X cL_sum 7 RL "sum" (some .long) 11 241) {Z : State → Prop} {hi : Nat} {ρ : Type} {rv : ρ} {rh : zH} {x1 : Nat} {K0 : Int64 → zH → Option (ρ × zH × Nat)} (hK0 : ∀ (y1 : Int64) (g9 : zH) (n9 : Nat), K0 y1 g9 = some (rv, rh, n9) → zW X 7 Z n9 (6 * n9) false hi g9 29 [(0, .ref x1), (1, .long y1)] []) : ∀ (k : Nat) (x2 : Int64) (x3 : Int32) (h4 : zH) (n9 : Nat), LL_sum_4 (xT X) x1 K0 k x2 x3 h4 = some (rv, rh, n9) → zW X 7 Z n9 (6 * n9) false hi h4 4 [(0, .ref x1), (1, .long x2), (3, .int x3)] [] := by
  have C := CL.1
  intro k
  induction k with
  | zero =>
    intro x2 x3 h4 n9 hf
    have hf : none = some (rv, rh, n9) := hf
    cases hf
  | succ k ih =>
    intro x2 x3 h4 n9 hf
    rw [LL_sum_4.eq_2] at hf
    refine z_iload_n C dL_sum_4 2 rfl rfl ?_
    refine z_bipush C (v := 10) dL_sum_5 (by decide) ?_
    refine z_icmp_ge (tgt := 29) C dL_sum_7 (by decide) hf (fun hf => ?_) (fun hf => ?_)
    · refine z_sub [0, 1] rfl ?_
      exact hK0 _ _ _ hf
    · refine z_ldc2 C (v := 131) mw_476 dL_sum_10 ?_
      refine z_lload_n C dL_sum_13 1 rfl rfl ?_
      refine z_lmul C dL_sum_14 ?_
      refine z_aload_n C dL_sum_15 0 rfl rfl ?_
      refine z_iload_n C dL_sum_16 2 rfl rfl ?_
      obtain ⟨x6, h7, m8, n9, g5, hf, e9⟩ := zclE hf
      refine z_callL (kc' := n9) (ks' := 6 * n9) CL (ML_about (xl X) CL.2.2.2 (xD X) (xT X) (xlo X) hi g5) cw_L_180 ys_L_about dL_sum_17 rfl ⟨Nat.le_of_ble_eq_true rfl, Nat.le_of_ble_eq_true rfl⟩ ⟨by show m8 + _ = _; omega, by show 6 * m8 + _ = _; omega⟩ (Nat.le_of_ble_eq_true rfl) (st := [.long ((131 : Int64) * x2)]) rfl ?_
      refine z_i2l C dL_sum_20 ?_
      refine z_ladd C dL_sum_21 ?_
      refine z_lstore_n C dL_sum_22 rfl (by decide) (lv' := [(1, .long (((131 : Int64) * x2) + x6.toInt64)), (0, .ref x1), (3, .int x3)]) rfl ?_
      refine z_iinc C dL_sum_23 (k := 2) (d := 1) rfl (by decide) (by decide) (lv' := [(3, .int (x3 + 1)), (1, .long (((131 : Int64) * x2) + x6.toInt64)), (0, .ref x1)]) rfl ?_
      refine z_goto (tgt := 4) C dL_sum_26 (by decide) ?_
      refine z_sub [2, 1, 0] rfl ?_
      exact ih _ _ _ _ hf
def LL_sum_31 {ρ : Type} (T : zT) (x11 : Nat) (K0 : Int64 → zH → Option (ρ × zH × Nat)) : Nat → Int64 → Int32 → zH → Option (ρ × zH × Nat)
  | 0, _, _, _ => none
  | k + 1, x12, x13, h14 => if 10 ≤ x13 then (K0 x12 h14) else ((zdivI x13 5).bind fun x15 => (zremI x13 5).bind fun x16 => zcl (FL_call T x11 3 x15 x16 0 0 h14) fun x18 h19 => LL_sum_31 T x11 K0 k (((131 : Int64) * x12) + x18.toInt64) (x13 + 1) h19)
set_option maxHeartbeats 4000000 in
set_option maxRecDepth 100000 in
theorem LL_sum_31_ok {X : zX} (CL : zCL X cL_sum 7 RL "sum" (some .long) 11 241) {Z : State → Prop} {hi : Nat} {ρ : Type} {rv : ρ} {rh : zH} {x11 : Nat} {K0 : Int64 → zH → Option (ρ × zH × Nat)} (hK0 : ∀ (y1 : Int64) (g9 : zH) (n9 : Nat), K0 y1 g9 = some (rv, rh, n9) → zW X 7 Z n9 (6 * n9) false hi g9 64 [(0, .ref x11), (1, .long y1)] []) : ∀ (k : Nat) (x12 : Int64) (x13 : Int32) (h14 : zH) (n9 : Nat), LL_sum_31 (xT X) x11 K0 k x12 x13 h14 = some (rv, rh, n9) → zW X 7 Z n9 (6 * n9) false hi h14 31 [(0, .ref x11), (1, .long x12), (3, .int x13)] [] := by
  have C := CL.1
  intro k
  induction k with
  | zero =>
    intro x12 x13 h14 n9 hf
    have hf : none = some (rv, rh, n9) := hf
    cases hf
  | succ k ih =>
    intro x12 x13 h14 n9 hf
    rw [LL_sum_31.eq_2] at hf
    refine z_iload_n C dL_sum_31 2 rfl rfl ?_
    refine z_bipush C (v := 10) dL_sum_32 (by decide) ?_
    refine z_icmp_ge (tgt := 64) C dL_sum_34 (by decide) hf (fun hf => ?_) (fun hf => ?_)
    · refine z_sub [0, 1] rfl ?_
      exact hK0 _ _ _ hf
    · refine z_ldc2 C (v := 131) mw_476 dL_sum_37 ?_
      refine z_lload_n C dL_sum_40 1 rfl rfl ?_
      refine z_lmul C dL_sum_41 ?_
      refine z_aload_n C dL_sum_42 0 rfl rfl ?_
      refine z_iconst C (v := 3) dL_sum_43 (by decide) ?_
      refine z_iload_n C dL_sum_44 2 rfl rfl ?_
      refine z_iconst C (v := 5) dL_sum_45 (by decide) ?_
      refine z_idiv C dL_sum_46 hf (fun x15 _ hf => ?_)
      refine z_iload_n C dL_sum_47 2 rfl rfl ?_
      refine z_iconst C (v := 5) dL_sum_48 (by decide) ?_
      refine z_irem C dL_sum_49 hf (fun x16 _ hf => ?_)
      refine z_iconst C (v := 0) dL_sum_50 (by decide) ?_
      refine z_iconst C (v := 0) dL_sum_51 (by decide) ?_
      obtain ⟨x18, h19, m20, n9, g17, hf, e9⟩ := zclE hf
      refine z_callL (kc' := n9) (ks' := 6 * n9) CL (ML_call (xl X) CL.2.2.2 (xD X) (xT X) (xlo X) hi g17) cw_L_174 ys_L_call dL_sum_52 rfl ⟨Nat.le_of_ble_eq_true rfl, Nat.le_of_ble_eq_true rfl⟩ ⟨by show m20 + _ = _; omega, by show 6 * m20 + _ = _; omega⟩ (Nat.le_of_ble_eq_true rfl) (st := [.long ((131 : Int64) * x12)]) rfl ?_
      refine z_i2l C dL_sum_55 ?_
      refine z_ladd C dL_sum_56 ?_
      refine z_lstore_n C dL_sum_57 rfl (by decide) (lv' := [(1, .long (((131 : Int64) * x12) + x18.toInt64)), (0, .ref x11), (3, .int x13)]) rfl ?_
      refine z_iinc C dL_sum_58 (k := 2) (d := 1) rfl (by decide) (by decide) (lv' := [(3, .int (x13 + 1)), (1, .long (((131 : Int64) * x12) + x18.toInt64)), (0, .ref x11)]) rfl ?_
      refine z_goto (tgt := 31) C dL_sum_61 (by decide) ?_
      refine z_sub [2, 1, 0] rfl ?_
      exact ih _ _ _ _ hf
def LL_sum_109 {ρ : Type} (T : zT) (x50 : Nat) (x51 : Int32) (x52 : Int32) (x53 : Int32) (K0 : Int64 → zH → Option (ρ × zH × Nat)) : Nat → Int64 → Int32 → zH → Option (ρ × zH × Nat)
  | 0, _, _, _ => none
  | k + 1, x54, x55, h56 => if 8 ≤ x55 then (K0 x54 h56) else (zcl (FL_call T x50 5 x52 x51 x53 x55 h56) fun x58 h59 => LL_sum_109 T x50 x51 x52 x53 K0 k (((((131 : Int64) * x54) + x58.toInt64) + ((7 * x52).toInt64)) + ((3 * x51).toInt64)) (x55 + 1) h59)
set_option maxHeartbeats 4000000 in
set_option maxRecDepth 100000 in
theorem LL_sum_109_ok {X : zX} (CL : zCL X cL_sum 7 RL "sum" (some .long) 11 241) {Z : State → Prop} {hi : Nat} {ρ : Type} {rv : ρ} {rh : zH} {x50 : Nat} {x51 : Int32} {x52 : Int32} {x53 : Int32} {K0 : Int64 → zH → Option (ρ × zH × Nat)} (hK0 : ∀ (y1 : Int64) (g9 : zH) (n9 : Nat), K0 y1 g9 = some (rv, rh, n9) → zW X 7 Z n9 (6 * n9) false hi g9 154 [(0, .ref x50), (1, .long y1), (3, .int x51), (4, .int x52), (5, .int x53)] []) : ∀ (k : Nat) (x54 : Int64) (x55 : Int32) (h56 : zH) (n9 : Nat), LL_sum_109 (xT X) x50 x51 x52 x53 K0 k x54 x55 h56 = some (rv, rh, n9) → zW X 7 Z n9 (6 * n9) false hi h56 109 [(0, .ref x50), (1, .long x54), (3, .int x51), (4, .int x52), (5, .int x53), (6, .int x55)] [] := by
  have C := CL.1
  intro k
  induction k with
  | zero =>
    intro x54 x55 h56 n9 hf
    have hf : none = some (rv, rh, n9) := hf
    cases hf
  | succ k ih =>
    intro x54 x55 h56 n9 hf
    rw [LL_sum_109.eq_2] at hf
    refine z_iload C dL_sum_109 5 rfl ?_
    refine z_bipush C (v := 8) dL_sum_111 (by decide) ?_
    refine z_icmp_ge (tgt := 154) C dL_sum_113 (by decide) hf (fun hf => ?_) (fun hf => ?_)
    · refine z_sub [0, 1, 2, 3, 4] rfl ?_
      exact hK0 _ _ _ hf
    · refine z_ldc2 C (v := 131) mw_476 dL_sum_116 ?_
      refine z_lload_n C dL_sum_119 1 rfl rfl ?_
      refine z_lmul C dL_sum_120 ?_
      refine z_aload_n C dL_sum_121 0 rfl rfl ?_
      refine z_iconst C (v := 5) dL_sum_122 (by decide) ?_
      refine z_iload C dL_sum_123 3 rfl ?_
      refine z_iload_n C dL_sum_125 2 rfl rfl ?_
      refine z_iload C dL_sum_126 4 rfl ?_
      refine z_iload C dL_sum_128 5 rfl ?_
      obtain ⟨x58, h59, m60, n9, g57, hf, e9⟩ := zclE hf
      refine z_callL (kc' := n9) (ks' := 6 * n9) CL (ML_call (xl X) CL.2.2.2 (xD X) (xT X) (xlo X) hi g57) cw_L_174 ys_L_call dL_sum_130 rfl ⟨Nat.le_of_ble_eq_true rfl, Nat.le_of_ble_eq_true rfl⟩ ⟨by show m60 + _ = _; omega, by show 6 * m60 + _ = _; omega⟩ (Nat.le_of_ble_eq_true rfl) (st := [.long ((131 : Int64) * x54)]) rfl ?_
      refine z_i2l C dL_sum_133 ?_
      refine z_ladd C dL_sum_134 ?_
      refine z_bipush C (v := 7) dL_sum_135 (by decide) ?_
      refine z_iload C dL_sum_137 3 rfl ?_
      refine z_imul C dL_sum_139 ?_
      refine z_i2l C dL_sum_140 ?_
      refine z_ladd C dL_sum_141 ?_
      refine z_iconst C (v := 3) dL_sum_142 (by decide) ?_
      refine z_iload_n C dL_sum_143 2 rfl rfl ?_
      refine z_imul C dL_sum_144 ?_
      refine z_i2l C dL_sum_145 ?_
      refine z_ladd C dL_sum_146 ?_
      refine z_lstore_n C dL_sum_147 rfl (by decide) (lv' := [(1, .long (((((131 : Int64) * x54) + x58.toInt64) + ((7 * x52).toInt64)) + ((3 * x51).toInt64))), (0, .ref x50), (3, .int x51), (4, .int x52), (5, .int x53), (6, .int x55)]) rfl ?_
      refine z_iinc C dL_sum_148 (k := 5) (d := 1) rfl (by decide) (by decide) (lv' := [(6, .int (x55 + 1)), (1, .long (((((131 : Int64) * x54) + x58.toInt64) + ((7 * x52).toInt64)) + ((3 * x51).toInt64))), (0, .ref x50), (3, .int x51), (4, .int x52), (5, .int x53)]) rfl ?_
      refine z_goto (tgt := 109) C dL_sum_151 (by decide) ?_
      refine z_sub [2, 1, 3, 4, 5, 0] rfl ?_
      exact ih _ _ _ _ hf
def LL_sum_91 {ρ : Type} (T : zT) (x40 : Nat) (x41 : Int32) (x42 : Int32) (K0 : Int64 → zH → Option (ρ × zH × Nat)) : Nat → Int64 → Int32 → zH → Option (ρ × zH × Nat)
  | 0, _, _, _ => none
  | k + 1, x43, x44, h45 => zcl (FL_call T x40 4 x42 x41 0 0 h45) fun x47 h48 => if x47 ≤ x44 then (K0 x43 h48) else (LL_sum_109 T x40 x41 x42 x44 (fun (x61 : Int64) (h62 : zH) => LL_sum_91 T x40 x41 x42 K0 k x61 (x44 + 1) h62) FUEL x43 0 h48)
set_option maxHeartbeats 4000000 in
set_option maxRecDepth 100000 in
theorem LL_sum_91_ok {X : zX} (CL : zCL X cL_sum 7 RL "sum" (some .long) 11 241) {Z : State → Prop} {hi : Nat} {ρ : Type} {rv : ρ} {rh : zH} {x40 : Nat} {x41 : Int32} {x42 : Int32} {K0 : Int64 → zH → Option (ρ × zH × Nat)} (hK0 : ∀ (y1 : Int64) (g9 : zH) (n9 : Nat), K0 y1 g9 = some (rv, rh, n9) → zW X 7 Z n9 (6 * n9) false hi g9 160 [(0, .ref x40), (1, .long y1), (3, .int x41), (4, .int x42)] []) : ∀ (k : Nat) (x43 : Int64) (x44 : Int32) (h45 : zH) (n9 : Nat), LL_sum_91 (xT X) x40 x41 x42 K0 k x43 x44 h45 = some (rv, rh, n9) → zW X 7 Z n9 (6 * n9) false hi h45 91 [(0, .ref x40), (1, .long x43), (3, .int x41), (4, .int x42), (5, .int x44)] [] := by
  have C := CL.1
  intro k
  induction k with
  | zero =>
    intro x43 x44 h45 n9 hf
    have hf : none = some (rv, rh, n9) := hf
    cases hf
  | succ k ih =>
    intro x43 x44 h45 n9 hf
    rw [LL_sum_91.eq_2] at hf
    refine z_iload C dL_sum_91 4 rfl ?_
    refine z_aload_n C dL_sum_93 0 rfl rfl ?_
    refine z_iconst C (v := 4) dL_sum_94 (by decide) ?_
    refine z_iload C dL_sum_95 3 rfl ?_
    refine z_iload_n C dL_sum_97 2 rfl rfl ?_
    refine z_iconst C (v := 0) dL_sum_98 (by decide) ?_
    refine z_iconst C (v := 0) dL_sum_99 (by decide) ?_
    obtain ⟨x47, h48, m49, n9, g46, hf, e9⟩ := zclE hf
    refine z_callL (kc' := n9) (ks' := 6 * n9) CL (ML_call (xl X) CL.2.2.2 (xD X) (xT X) (xlo X) hi g46) cw_L_174 ys_L_call dL_sum_100 rfl ⟨Nat.le_of_ble_eq_true rfl, Nat.le_of_ble_eq_true rfl⟩ ⟨by show m49 + _ = _; omega, by show 6 * m49 + _ = _; omega⟩ (Nat.le_of_ble_eq_true rfl) (st := [.int x44]) rfl ?_
    refine z_icmp_ge (tgt := 160) C dL_sum_103 (by decide) hf (fun hf => ?_) (fun hf => ?_)
    · refine z_sub [0, 1, 2, 3] rfl ?_
      exact hK0 _ _ _ hf
    · refine z_iconst C (v := 0) dL_sum_106 (by decide) ?_
      refine z_istore C dL_sum_107 (by decide) (lv' := [(6, .int 0), (0, .ref x40), (1, .long x43), (3, .int x41), (4, .int x42), (5, .int x44)]) rfl ?_
      refine z_sub [1, 2, 3, 4, 5, 0] rfl ?_
      refine LL_sum_109_ok CL ?_ FUEL _ _ _ _ hf
      · intro x61 h62 n9 hf
        refine z_iinc C dL_sum_154 (k := 4) (d := 1) rfl (by decide) (by decide) (lv' := [(5, .int (x44 + 1)), (0, .ref x40), (1, .long x61), (3, .int x41), (4, .int x42)]) rfl ?_
        refine z_goto (tgt := 91) C dL_sum_157 (by decide) ?_
        refine z_sub [1, 2, 3, 4, 0] rfl ?_
        exact ih _ _ _ _ hf
def LL_sum_78 {ρ : Type} (T : zT) (x31 : Nat) (x32 : Int32) (K0 : Int64 → zH → Option (ρ × zH × Nat)) : Nat → Int64 → Int32 → zH → Option (ρ × zH × Nat)
  | 0, _, _, _ => none
  | k + 1, x33, x34, h35 => zcl (FL_about T x31 0 h35) fun x37 h38 => if x37 ≤ x34 then (K0 x33 h38) else (LL_sum_91 T x31 x32 x34 (fun (x63 : Int64) (h64 : zH) => LL_sum_78 T x31 x32 K0 k x63 (x34 + 1) h64) FUEL x33 0 h38)
set_option maxHeartbeats 4000000 in
set_option maxRecDepth 100000 in
theorem LL_sum_78_ok {X : zX} (CL : zCL X cL_sum 7 RL "sum" (some .long) 11 241) {Z : State → Prop} {hi : Nat} {ρ : Type} {rv : ρ} {rh : zH} {x31 : Nat} {x32 : Int32} {K0 : Int64 → zH → Option (ρ × zH × Nat)} (hK0 : ∀ (y1 : Int64) (g9 : zH) (n9 : Nat), K0 y1 g9 = some (rv, rh, n9) → zW X 7 Z n9 (6 * n9) false hi g9 166 [(0, .ref x31), (1, .long y1), (3, .int x32)] []) : ∀ (k : Nat) (x33 : Int64) (x34 : Int32) (h35 : zH) (n9 : Nat), LL_sum_78 (xT X) x31 x32 K0 k x33 x34 h35 = some (rv, rh, n9) → zW X 7 Z n9 (6 * n9) false hi h35 78 [(0, .ref x31), (1, .long x33), (3, .int x32), (4, .int x34)] [] := by
  have C := CL.1
  intro k
  induction k with
  | zero =>
    intro x33 x34 h35 n9 hf
    have hf : none = some (rv, rh, n9) := hf
    cases hf
  | succ k ih =>
    intro x33 x34 h35 n9 hf
    rw [LL_sum_78.eq_2] at hf
    refine z_iload C dL_sum_78 3 rfl ?_
    refine z_aload_n C dL_sum_80 0 rfl rfl ?_
    refine z_iconst C (v := 0) dL_sum_81 (by decide) ?_
    obtain ⟨x37, h38, m39, n9, g36, hf, e9⟩ := zclE hf
    refine z_callL (kc' := n9) (ks' := 6 * n9) CL (ML_about (xl X) CL.2.2.2 (xD X) (xT X) (xlo X) hi g36) cw_L_180 ys_L_about dL_sum_82 rfl ⟨Nat.le_of_ble_eq_true rfl, Nat.le_of_ble_eq_true rfl⟩ ⟨by show m39 + _ = _; omega, by show 6 * m39 + _ = _; omega⟩ (Nat.le_of_ble_eq_true rfl) (st := [.int x34]) rfl ?_
    refine z_icmp_ge (tgt := 166) C dL_sum_85 (by decide) hf (fun hf => ?_) (fun hf => ?_)
    · refine z_sub [0, 1, 2] rfl ?_
      exact hK0 _ _ _ hf
    · refine z_iconst C (v := 0) dL_sum_88 (by decide) ?_
      refine z_istore C dL_sum_89 (by decide) (lv' := [(5, .int 0), (0, .ref x31), (1, .long x33), (3, .int x32), (4, .int x34)]) rfl ?_
      refine z_sub [1, 2, 3, 4, 0] rfl ?_
      refine LL_sum_91_ok CL ?_ FUEL _ _ _ _ hf
      · intro x63 h64 n9 hf
        refine z_iinc C dL_sum_160 (k := 3) (d := 1) rfl (by decide) (by decide) (lv' := [(4, .int (x34 + 1)), (0, .ref x31), (1, .long x63), (3, .int x32)]) rfl ?_
        refine z_goto (tgt := 78) C dL_sum_163 (by decide) ?_
        refine z_sub [1, 2, 3, 0] rfl ?_
        exact ih _ _ _ _ hf
def LL_sum_66 {ρ : Type} (T : zT) (x23 : Nat) (K0 : Int64 → zH → Option (ρ × zH × Nat)) : Nat → Int64 → Int32 → zH → Option (ρ × zH × Nat)
  | 0, _, _, _ => none
  | k + 1, x24, x25, h26 => zcl (FL_about T x23 1 h26) fun x28 h29 => if x28 ≤ x25 then (K0 x24 h29) else (LL_sum_78 T x23 x25 (fun (x65 : Int64) (h66 : zH) => LL_sum_66 T x23 K0 k x65 (x25 + 1) h66) FUEL x24 0 h29)
set_option maxHeartbeats 4000000 in
set_option maxRecDepth 100000 in
theorem LL_sum_66_ok {X : zX} (CL : zCL X cL_sum 7 RL "sum" (some .long) 11 241) {Z : State → Prop} {hi : Nat} {ρ : Type} {rv : ρ} {rh : zH} {x23 : Nat} {K0 : Int64 → zH → Option (ρ × zH × Nat)} (hK0 : ∀ (y1 : Int64) (g9 : zH) (n9 : Nat), K0 y1 g9 = some (rv, rh, n9) → zW X 7 Z n9 (6 * n9) false hi g9 172 [(1, .long y1)] []) : ∀ (k : Nat) (x24 : Int64) (x25 : Int32) (h26 : zH) (n9 : Nat), LL_sum_66 (xT X) x23 K0 k x24 x25 h26 = some (rv, rh, n9) → zW X 7 Z n9 (6 * n9) false hi h26 66 [(0, .ref x23), (1, .long x24), (3, .int x25)] [] := by
  have C := CL.1
  intro k
  induction k with
  | zero =>
    intro x24 x25 h26 n9 hf
    have hf : none = some (rv, rh, n9) := hf
    cases hf
  | succ k ih =>
    intro x24 x25 h26 n9 hf
    rw [LL_sum_66.eq_2] at hf
    refine z_iload_n C dL_sum_66 2 rfl rfl ?_
    refine z_aload_n C dL_sum_67 0 rfl rfl ?_
    refine z_iconst C (v := 1) dL_sum_68 (by decide) ?_
    obtain ⟨x28, h29, m30, n9, g27, hf, e9⟩ := zclE hf
    refine z_callL (kc' := n9) (ks' := 6 * n9) CL (ML_about (xl X) CL.2.2.2 (xD X) (xT X) (xlo X) hi g27) cw_L_180 ys_L_about dL_sum_69 rfl ⟨Nat.le_of_ble_eq_true rfl, Nat.le_of_ble_eq_true rfl⟩ ⟨by show m30 + _ = _; omega, by show 6 * m30 + _ = _; omega⟩ (Nat.le_of_ble_eq_true rfl) (st := [.int x25]) rfl ?_
    refine z_icmp_ge (tgt := 172) C dL_sum_72 (by decide) hf (fun hf => ?_) (fun hf => ?_)
    · refine z_sub [1] rfl ?_
      exact hK0 _ _ _ hf
    · refine z_iconst C (v := 0) dL_sum_75 (by decide) ?_
      refine z_istore C dL_sum_76 (by decide) (lv' := [(4, .int 0), (0, .ref x23), (1, .long x24), (3, .int x25)]) rfl ?_
      refine z_sub [1, 2, 3, 0] rfl ?_
      refine LL_sum_78_ok CL ?_ FUEL _ _ _ _ hf
      · intro x65 h66 n9 hf
        refine z_iinc C dL_sum_166 (k := 2) (d := 1) rfl (by decide) (by decide) (lv' := [(3, .int (x25 + 1)), (0, .ref x23), (1, .long x65)]) rfl ?_
        refine z_goto (tgt := 66) C dL_sum_169 (by decide) ?_
        refine z_sub [1, 2, 0] rfl ?_
        exact ih _ _ _ _ hf
def FL_sum (T : zT) (p0 : Nat) (h : zH) : Option (Int64 × zH × Nat) := LL_sum_4 T p0 (fun (x9 : Int64) (h10 : zH) => LL_sum_31 T p0 (fun (x21 : Int64) (h22 : zH) => LL_sum_66 T p0 (fun (x67 : Int64) (h68 : zH) => some (x67, h68, 0)) FUEL x21 0 h22) FUEL x9 0 h10) FUEL (0 : Int64) 0 h
set_option maxHeartbeats 4000000 in
set_option maxRecDepth 100000 in
theorem BL_sum {X : zX} (CL : zCL X cL_sum 7 RL "sum" (some .long) 11 241) {hi : Nat} {h : zH} {p0 : Nat} {rv : Int64} {rh : zH} {n9 : Nat} (hf : FL_sum (xT X) p0 h = some (rv, rh, n9)) : zW X 7 (zZ X false (some (.long rv), hi, rh)) n9 (6 * n9) false hi h 0 [(0, .ref p0)] [] := by
  have C := CL.1
  unfold FL_sum at hf
  refine z_lconst C (v := 0) dL_sum_0 (by decide) ?_
  refine z_lstore_n C dL_sum_1 rfl (by decide) (lv' := [(1, .long (0 : Int64)), (0, .ref p0)]) rfl ?_
  refine z_iconst C (v := 0) dL_sum_2 (by decide) ?_
  refine z_istore_n C dL_sum_3 rfl (by decide) (lv' := [(3, .int 0), (1, .long (0 : Int64)), (0, .ref p0)]) rfl ?_
  refine z_sub [2, 1, 0] rfl ?_
  refine LL_sum_4_ok CL ?_ FUEL _ _ _ _ hf
  · intro x9 h10 n9 hf
    refine z_iconst C (v := 0) dL_sum_29 (by decide) ?_
    refine z_istore_n C dL_sum_30 rfl (by decide) (lv' := [(3, .int 0), (0, .ref p0), (1, .long x9)]) rfl ?_
    refine z_sub [1, 2, 0] rfl ?_
    refine LL_sum_31_ok CL ?_ FUEL _ _ _ _ hf
    · intro x21 h22 n9 hf
      refine z_iconst C (v := 0) dL_sum_64 (by decide) ?_
      refine z_istore_n C dL_sum_65 rfl (by decide) (lv' := [(3, .int 0), (0, .ref p0), (1, .long x21)]) rfl ?_
      refine z_sub [1, 2, 0] rfl ?_
      refine LL_sum_66_ok CL ?_ FUEL _ _ _ _ hf
      · intro x67 h68 n9 hf
        refine z_lload_n C dL_sum_172 0 rfl rfl ?_
        exact z_lreturn C dL_sum_173 (by cases hf; rfl)
theorem ML_sum (l : Launch) (hl9 : l.stackTraces = false) (D : va_G) (T : zT) (lo hi : Nat) {h : zH} {p0 : Nat} {rv : Int64} {rh : zH} {n9 : Nat} (hf : FL_sum T p0 h = some (rv, rh, n9)) : zMW l yL_sum (.code yL_sum cL_sum 7 (some .long) :: TW) ({ frames := 11, cells := n9, slots := 6 * n9, locals := 241 } : Room) D T lo [.ref p0] hi h (some (.long rv), hi, rh) :=
  z_enterL hl9 (own := RL) (nm := "sum") (lv := [(0, .ref p0)]) (by decide +kernel) rfl rfl (Nat.le_of_ble_eq_true rfl) rfl (fun _ _ _ _ _ _ _ _ C => BL_sum C hf)
