theorem mw_989 : (Jvm.Cond.methodLink "CrossedSheetLaw" (236 : Nat) ({ cls := "CrossedSheet", name := "errorPosition", desc := "()I" } : Jvm.MethodName)) ∈ TW := TWm 989 (by decide +kernel) (by decide +kernel)
theorem mw_990 : (Jvm.Cond.instanceMethod ({ cls := "CrossedSheet", name := "errorPosition", desc := "()I" } : Jvm.MethodName)) ∈ TW := TWm 990 (by decide +kernel) (by decide +kernel)
theorem mw_991 : (Jvm.Cond.selects "CrossedSheet" ({ cls := "CrossedSheet", name := "errorPosition", desc := "()I" } : Jvm.MethodName) ({ cls := "CrossedSheet", name := "errorPosition", desc := "()I" } : Jvm.MethodName)) ∈ TW := TWm 991 (by decide +kernel) (by decide +kernel)
theorem mw_992 : (Jvm.Cond.code ({ cls := "CrossedSheet", name := "errorPosition", desc := "()I" } : Jvm.MethodName) prog_1_method_4_code (1 : Nat) (Option.some Jvm.ClassFile.FieldType.int)) ∈ TW := TWm 992 (by decide +kernel) (by decide +kernel)
theorem yv_X6_errorPosition : yX6_errorPosition.cls = RX6 ∧ yX6_errorPosition.cls ≠ "java/lang/invoke/MethodHandle" ∧ yX6_errorPosition.cls ≠ "java/lang/invoke/VarHandle" ∧ (parseMethodDescriptor yX6_errorPosition.desc).map (fun d => d.parameters.length) = some 0 := by decide +kernel
theorem cw_L_236 : GoodIn TW (wsV RL 236 RX6 yX6_errorPosition (.code yX6_errorPosition cX6_errorPosition 1 (some .int) :: TW)) := zGV mw_989 mw_990 mw_991 mw_26 mw_992
theorem dL_reading_0 : decode cL_reading 0 = .ok (.aload_n 0, 1) := by decide +kernel
theorem dL_reading_1 : decode cL_reading 1 = .ok (.iconst 3, 1) := by decide +kernel
theorem dL_reading_2 : decode cL_reading 2 = .ok (.iload_n 1, 1) := by decide +kernel
theorem dL_reading_3 : decode cL_reading 3 = .ok (.iconst 2, 1) := by decide +kernel
theorem dL_reading_4 : decode cL_reading 4 = .ok (.iconst 0, 1) := by decide +kernel
theorem dL_reading_5 : decode cL_reading 5 = .ok (.iconst 0, 1) := by decide +kernel
theorem dL_reading_6 : decode cL_reading 6 = .ok (.invokestatic 174, 3) := by decide +kernel
theorem dL_reading_9 : decode cL_reading 9 = .ok (.ifCond .ne 7, 3) := by decide +kernel
theorem dL_reading_12 : decode cL_reading 12 = .ok (.iconst 1, 1) := by decide +kernel
theorem dL_reading_13 : decode cL_reading 13 = .ok (.goto 4, 3) := by decide +kernel
theorem dL_reading_16 : decode cL_reading 16 = .ok (.iconst 0, 1) := by decide +kernel
theorem dL_reading_17 : decode cL_reading 17 = .ok (.istore_n 2, 1) := by decide +kernel
theorem dL_reading_18 : decode cL_reading 18 = .ok (.aload_n 0, 1) := by decide +kernel
theorem dL_reading_19 : decode cL_reading 19 = .ok (.iconst 0, 1) := by decide +kernel
theorem dL_reading_20 : decode cL_reading 20 = .ok (.invokestatic 180, 3) := by decide +kernel
theorem dL_reading_23 : decode cL_reading 23 = .ok (.istore_n 3, 1) := by decide +kernel
theorem dL_reading_24 : decode cL_reading 24 = .ok (.aload_n 0, 1) := by decide +kernel
theorem dL_reading_25 : decode cL_reading 25 = .ok (.iconst 1, 1) := by decide +kernel
theorem dL_reading_26 : decode cL_reading 26 = .ok (.invokestatic 180, 3) := by decide +kernel
theorem dL_reading_29 : decode cL_reading 29 = .ok (.istore 4, 2) := by decide +kernel
theorem dL_reading_31 : decode cL_reading 31 = .ok (.iconst (-1), 1) := by decide +kernel
theorem dL_reading_32 : decode cL_reading 32 = .ok (.istore 5, 2) := by decide +kernel
theorem dL_reading_34 : decode cL_reading 34 = .ok (.iconst 1, 1) := by decide +kernel
theorem dL_reading_35 : decode cL_reading 35 = .ok (.istore 6, 2) := by decide +kernel
theorem dL_reading_37 : decode cL_reading 37 = .ok (.iconst 0, 1) := by decide +kernel
theorem dL_reading_38 : decode cL_reading 38 = .ok (.istore 7, 2) := by decide +kernel
theorem dL_reading_40 : decode cL_reading 40 = .ok (.iload 7, 2) := by decide +kernel
theorem dL_reading_42 : decode cL_reading 42 = .ok (.iload_n 3, 1) := by decide +kernel
theorem dL_reading_43 : decode cL_reading 43 = .ok (.iload 4, 2) := by decide +kernel
theorem dL_reading_45 : decode cL_reading 45 = .ok (.imul, 1) := by decide +kernel
theorem dL_reading_46 : decode cL_reading 46 = .ok (.if_icmp .ge 96, 3) := by decide +kernel
theorem dL_reading_49 : decode cL_reading 49 = .ok (.iload_n 2, 1) := by decide +kernel
theorem dL_reading_50 : decode cL_reading 50 = .ok (.ifCond .eq 10, 3) := by decide +kernel
theorem dL_reading_53 : decode cL_reading 53 = .ok (.iload 7, 2) := by decide +kernel
theorem dL_reading_55 : decode cL_reading 55 = .ok (.iload_n 3, 1) := by decide +kernel
theorem dL_reading_56 : decode cL_reading 56 = .ok (.irem, 1) := by decide +kernel
theorem dL_reading_57 : decode cL_reading 57 = .ok (.goto 8, 3) := by decide +kernel
theorem dL_reading_60 : decode cL_reading 60 = .ok (.iload 7, 2) := by decide +kernel
theorem dL_reading_62 : decode cL_reading 62 = .ok (.iload 4, 2) := by decide +kernel
theorem dL_reading_64 : decode cL_reading 64 = .ok (.idiv, 1) := by decide +kernel
theorem dL_reading_65 : decode cL_reading 65 = .ok (.istore 8, 2) := by decide +kernel
theorem dL_reading_67 : decode cL_reading 67 = .ok (.iload_n 2, 1) := by decide +kernel
theorem dL_reading_68 : decode cL_reading 68 = .ok (.ifCond .eq 10, 3) := by decide +kernel
theorem dL_reading_71 : decode cL_reading 71 = .ok (.iload 7, 2) := by decide +kernel
theorem dL_reading_73 : decode cL_reading 73 = .ok (.iload_n 3, 1) := by decide +kernel
theorem dL_reading_74 : decode cL_reading 74 = .ok (.idiv, 1) := by decide +kernel
theorem dL_reading_75 : decode cL_reading 75 = .ok (.goto 8, 3) := by decide +kernel
theorem dL_reading_78 : decode cL_reading 78 = .ok (.iload 7, 2) := by decide +kernel
theorem dL_reading_80 : decode cL_reading 80 = .ok (.iload 4, 2) := by decide +kernel
theorem dL_reading_82 : decode cL_reading 82 = .ok (.irem, 1) := by decide +kernel
theorem dL_reading_83 : decode cL_reading 83 = .ok (.istore 9, 2) := by decide +kernel
theorem dL_reading_85 : decode cL_reading 85 = .ok (.aload_n 0, 1) := by decide +kernel
theorem dL_reading_86 : decode cL_reading 86 = .ok (.bipush 8, 2) := by decide +kernel
theorem dL_reading_88 : decode cL_reading 88 = .ok (.iload_n 1, 1) := by decide +kernel
theorem dL_reading_89 : decode cL_reading 89 = .ok (.iload 8, 2) := by decide +kernel
theorem dL_reading_91 : decode cL_reading 91 = .ok (.iload 9, 2) := by decide +kernel
theorem dL_reading_93 : decode cL_reading 93 = .ok (.iconst 0, 1) := by decide +kernel
theorem dL_reading_94 : decode cL_reading 94 = .ok (.invokestatic 174, 3) := by decide +kernel
theorem dL_reading_97 : decode cL_reading 97 = .ok (.istore 10, 2) := by decide +kernel
theorem dL_reading_99 : decode cL_reading 99 = .ok (.iload 10, 2) := by decide +kernel
theorem dL_reading_101 : decode cL_reading 101 = .ok (.bipush (-9), 2) := by decide +kernel
theorem dL_reading_103 : decode cL_reading 103 = .ok (.if_icmp .eq 33, 3) := by decide +kernel
theorem dL_reading_106 : decode cL_reading 106 = .ok (.iload 6, 2) := by decide +kernel
theorem dL_reading_108 : decode cL_reading 108 = .ok (.iload 10, 2) := by decide +kernel
theorem dL_reading_110 : decode cL_reading 110 = .ok (.iload 5, 2) := by decide +kernel
theorem dL_reading_112 : decode cL_reading 112 = .ok (.if_icmp .eq 12, 3) := by decide +kernel
theorem dL_reading_115 : decode cL_reading 115 = .ok (.iload 10, 2) := by decide +kernel
theorem dL_reading_117 : decode cL_reading 117 = .ok (.iload 5, 2) := by decide +kernel
theorem dL_reading_119 : decode cL_reading 119 = .ok (.iconst 1, 1) := by decide +kernel
theorem dL_reading_120 : decode cL_reading 120 = .ok (.iadd, 1) := by decide +kernel
theorem dL_reading_121 : decode cL_reading 121 = .ok (.if_icmp .ne 7, 3) := by decide +kernel
theorem dL_reading_124 : decode cL_reading 124 = .ok (.iconst 1, 1) := by decide +kernel
theorem dL_reading_125 : decode cL_reading 125 = .ok (.goto 4, 3) := by decide +kernel
theorem dL_reading_128 : decode cL_reading 128 = .ok (.iconst 0, 1) := by decide +kernel
theorem dL_reading_129 : decode cL_reading 129 = .ok (.iand, 1) := by decide +kernel
theorem dL_reading_130 : decode cL_reading 130 = .ok (.istore 6, 2) := by decide +kernel
theorem dL_reading_132 : decode cL_reading 132 = .ok (.iload 10, 2) := by decide +kernel
theorem dL_reading_134 : decode cL_reading 134 = .ok (.istore 5, 2) := by decide +kernel
theorem dL_reading_136 : decode cL_reading 136 = .ok (.iinc 7 1, 3) := by decide +kernel
theorem dL_reading_139 : decode cL_reading 139 = .ok (.goto (-99), 3) := by decide +kernel
theorem dL_reading_142 : decode cL_reading 142 = .ok (.iload 6, 2) := by decide +kernel
theorem dL_reading_144 : decode cL_reading 144 = .ok (.ifCond .eq 23, 3) := by decide +kernel
theorem dL_reading_147 : decode cL_reading 147 = .ok (.iload 5, 2) := by decide +kernel
theorem dL_reading_149 : decode cL_reading 149 = .ok (.iconst 1, 1) := by decide +kernel
theorem dL_reading_150 : decode cL_reading 150 = .ok (.iadd, 1) := by decide +kernel
theorem dL_reading_151 : decode cL_reading 151 = .ok (.aload_n 0, 1) := by decide +kernel
theorem dL_reading_152 : decode cL_reading 152 = .ok (.iconst 3, 1) := by decide +kernel
theorem dL_reading_153 : decode cL_reading 153 = .ok (.iload_n 1, 1) := by decide +kernel
theorem dL_reading_154 : decode cL_reading 154 = .ok (.iconst 3, 1) := by decide +kernel
theorem dL_reading_155 : decode cL_reading 155 = .ok (.iconst 0, 1) := by decide +kernel
theorem dL_reading_156 : decode cL_reading 156 = .ok (.iconst 0, 1) := by decide +kernel
theorem dL_reading_157 : decode cL_reading 157 = .ok (.invokestatic 174, 3) := by decide +kernel
theorem dL_reading_160 : decode cL_reading 160 = .ok (.if_icmp .ne 7, 3) := by decide +kernel
theorem dL_reading_163 : decode cL_reading 163 = .ok (.iconst 1, 1) := by decide +kernel
theorem dL_reading_164 : decode cL_reading 164 = .ok (.goto 4, 3) := by decide +kernel
theorem dL_reading_167 : decode cL_reading 167 = .ok (.iconst 0, 1) := by decide +kernel
theorem dL_reading_168 : decode cL_reading 168 = .ok (.ireturn, 1) := by decide +kernel
def LL_reading_40 {ρ : Type} (T : zT) (x12 : Nat) (x13 : Int32) (x14 : Int32) (x15 : Int32) (x16 : Int32) (K0 : Int32 → Int32 → zH → Option (ρ × zH × Nat)) : Nat → Int32 → Int32 → Int32 → zH → Option (ρ × zH × Nat)
  | 0, _, _, _, _ => none
  | k + 1, x17, x18, x19, h20 => if (x15 * x16) ≤ x19 then (K0 x17 x18 h20) else (zJ (fun (x21 : Int32) => zJ (fun (x23 : Int32) (x24 : Int32) => zJ (fun (x26 : Int32) (x27 : Int32) (h28 : zH) => LL_reading_40 T x12 x13 x14 x15 x16 K0 k x26 x27 (x19 + 1) h28) (fun J29 => zcl (FL_call T x12 8 x13 x23 x24 0 h20) fun x31 h32 => if x31 = (-9 : Int32) then (J29 x17 x18 h32) else (zJ (fun (x34 : Int32) (x35 : Int32) => J29 x31 (x35 &&& x34) h32) (fun J36 => zJ (fun (x37 : Int32) => J36 1 x37) (fun J38 => if x31 = x17 then (J38 x18) else (if x31 = (x17 + 1) then (J38 x18) else (J36 0 x18))))))) (fun J25 => if x14 = 0 then ((zremI x19 x16).bind fun x39 => J25 x21 x39) else ((zdivI x19 x15).bind fun x40 => J25 x21 x40))) (fun J22 => if x14 = 0 then ((zdivI x19 x16).bind fun x41 => J22 x41) else ((zremI x19 x15).bind fun x42 => J22 x42)))
set_option maxHeartbeats 4000000 in
set_option maxRecDepth 100000 in
theorem LL_reading_40_ok {X : zX} (CL : zCL X cL_reading 11 RL "reading" (some .boolean) 11 241) {Z : State → Prop} {hi : Nat} {ρ : Type} {rv : ρ} {rh : zH} {x12 : Nat} {x13 : Int32} {x14 : Int32} {x15 : Int32} {x16 : Int32} {K0 : Int32 → Int32 → zH → Option (ρ × zH × Nat)} (hK0 : ∀ (y5 : Int32) (y6 : Int32) (g9 : zH) (n9 : Nat), K0 y5 y6 g9 = some (rv, rh, n9) → zW X 11 Z n9 (6 * n9) false hi g9 142 [(0, .ref x12), (1, .int x13), (5, .int y5), (6, .int y6)] []) : ∀ (k : Nat) (x17 : Int32) (x18 : Int32) (x19 : Int32) (h20 : zH) (n9 : Nat), LL_reading_40 (xT X) x12 x13 x14 x15 x16 K0 k x17 x18 x19 h20 = some (rv, rh, n9) → zW X 11 Z n9 (6 * n9) false hi h20 40 [(0, .ref x12), (1, .int x13), (2, .int x14), (3, .int x15), (4, .int x16), (5, .int x17), (6, .int x18), (7, .int x19)] [] := by
  have C := CL.1
  intro k
  induction k with
  | zero =>
    intro x17 x18 x19 h20 n9 hf
    have hf : none = some (rv, rh, n9) := hf
    cases hf
  | succ k ih =>
    intro x17 x18 x19 h20 n9 hf
    rw [LL_reading_40.eq_2] at hf
    refine z_iload C dL_reading_40 7 rfl ?_
    refine z_iload_n C dL_reading_42 3 rfl rfl ?_
    refine z_iload C dL_reading_43 4 rfl ?_
    refine z_imul C dL_reading_45 ?_
    refine z_icmp_ge (tgt := 142) C dL_reading_46 (by decide) hf (fun hf => ?_) (fun hf => ?_)
    · refine z_sub [0, 1, 5, 6] rfl ?_
      exact hK0 _ _ _ _ hf
    · refine z_join (P := fun J => ∀ (x21 : Int32) (n9 : Nat), J x21 = some (rv, rh, n9) → zW X 11 Z n9 (6 * n9) false hi h20 65 [(0, .ref x12), (1, .int x13), (2, .int x14), (3, .int x15), (4, .int x16), (5, .int x17), (6, .int x18), (7, .int x19)] [.int x21]) hf ?_ ?_
      · intro x21 n9 hf
        refine z_join (P := fun J => ∀ (x23 : Int32) (x24 : Int32) (n9 : Nat), J x23 x24 = some (rv, rh, n9) → zW X 11 Z n9 (6 * n9) false hi h20 83 [(0, .ref x12), (1, .int x13), (2, .int x14), (3, .int x15), (4, .int x16), (5, .int x17), (6, .int x18), (7, .int x19), (8, .int x23)] [.int x24]) hf ?_ ?_
        · intro x23 x24 n9 hf
          refine z_join (P := fun J => ∀ (x26 : Int32) (x27 : Int32) (h28 : zH) (n9 : Nat), J x26 x27 h28 = some (rv, rh, n9) → zW X 11 Z n9 (6 * n9) false hi h28 136 [(0, .ref x12), (1, .int x13), (2, .int x14), (3, .int x15), (4, .int x16), (5, .int x26), (6, .int x27), (7, .int x19)] []) hf ?_ ?_
          · intro x26 x27 h28 n9 hf
            refine z_iinc C dL_reading_136 (k := 7) (d := 1) rfl (by decide) (by decide) (lv' := [(7, .int (x19 + 1)), (0, .ref x12), (1, .int x13), (2, .int x14), (3, .int x15), (4, .int x16), (5, .int x26), (6, .int x27)]) rfl ?_
            refine z_goto (tgt := 40) C dL_reading_139 (by decide) ?_
            refine z_sub [1, 2, 3, 4, 5, 6, 7, 0] rfl ?_
            exact ih _ _ _ _ _ hf
          · intro J29 kJ29 hf
            refine z_istore C dL_reading_83 (by decide) (lv' := [(9, .int x24), (0, .ref x12), (1, .int x13), (2, .int x14), (3, .int x15), (4, .int x16), (5, .int x17), (6, .int x18), (7, .int x19), (8, .int x23)]) rfl ?_
            refine z_aload_n C dL_reading_85 1 rfl rfl ?_
            refine z_bipush C (v := 8) dL_reading_86 (by decide) ?_
            refine z_iload_n C dL_reading_88 2 rfl rfl ?_
            refine z_iload C dL_reading_89 9 rfl ?_
            refine z_iload C dL_reading_91 0 rfl ?_
            refine z_iconst C (v := 0) dL_reading_93 (by decide) ?_
            obtain ⟨x31, h32, m33, n9, g30, hf, e9⟩ := zclE hf
            refine z_callL (kc' := n9) (ks' := 6 * n9) CL (ML_call (xl X) CL.2.2.2 (xD X) (xT X) (xlo X) hi g30) cw_L_174 ys_L_call dL_reading_94 rfl ⟨Nat.le_of_ble_eq_true rfl, Nat.le_of_ble_eq_true rfl⟩ ⟨by show m33 + _ = _; omega, by show 6 * m33 + _ = _; omega⟩ (Nat.le_of_ble_eq_true rfl) (st := []) rfl ?_
            refine z_istore C dL_reading_97 (by decide) (lv' := [(10, .int x31), (9, .int x24), (0, .ref x12), (1, .int x13), (2, .int x14), (3, .int x15), (4, .int x16), (5, .int x17), (6, .int x18), (7, .int x19), (8, .int x23)]) rfl ?_
            refine z_iload C dL_reading_99 0 rfl ?_
            refine z_bipush C (v := (-9 : Int32)) dL_reading_101 (by decide) ?_
            refine z_icmp_eq (tgt := 136) C dL_reading_103 (by decide) hf (fun hf => ?_) (fun hf => ?_)
            · refine z_sub [2, 3, 4, 5, 6, 7, 8, 9] rfl ?_
              exact kJ29 _ _ _ _ hf
            · refine z_join (P := fun J => ∀ (x34 : Int32) (x35 : Int32) (n9 : Nat), J x34 x35 = some (rv, rh, n9) → zW X 11 Z n9 (6 * n9) false hi h32 129 [(0, .ref x12), (1, .int x13), (2, .int x14), (3, .int x15), (4, .int x16), (7, .int x19), (10, .int x31)] [.int x34, .int x35]) hf ?_ ?_
              · intro x34 x35 n9 hf
                refine z_iand C dL_reading_129 ?_
                refine z_istore C dL_reading_130 (by decide) (lv' := [(6, .int (x35 &&& x34)), (0, .ref x12), (1, .int x13), (2, .int x14), (3, .int x15), (4, .int x16), (7, .int x19), (10, .int x31)]) rfl ?_
                refine z_iload C dL_reading_132 7 rfl ?_
                refine z_istore C dL_reading_134 (by decide) (lv' := [(5, .int x31), (6, .int (x35 &&& x34)), (0, .ref x12), (1, .int x13), (2, .int x14), (3, .int x15), (4, .int x16), (7, .int x19), (10, .int x31)]) rfl ?_
                refine z_sub [2, 3, 4, 5, 6, 0, 1, 7] rfl ?_
                exact kJ29 _ _ _ _ hf
              · intro J36 kJ36 hf
                refine z_join (P := fun J => ∀ (x37 : Int32) (n9 : Nat), J x37 = some (rv, rh, n9) → zW X 11 Z n9 (6 * n9) false hi h32 124 [(0, .ref x12), (1, .int x13), (2, .int x14), (3, .int x15), (4, .int x16), (7, .int x19), (10, .int x31)] [.int x37]) hf ?_ ?_
                · intro x37 n9 hf
                  refine z_iconst C (v := 1) dL_reading_124 (by decide) ?_
                  refine z_goto (tgt := 129) C dL_reading_125 (by decide) ?_
                  exact kJ36 _ _ _ hf
                · intro J38 kJ38 hf
                  refine z_iload C dL_reading_106 8 rfl ?_
                  refine z_iload C dL_reading_108 0 rfl ?_
                  refine z_iload C dL_reading_110 7 rfl ?_
                  refine z_icmp_eq (tgt := 124) C dL_reading_112 (by decide) hf (fun hf => ?_) (fun hf => ?_)
                  · refine z_sub [2, 3, 4, 5, 6, 9, 0] rfl ?_
                    exact kJ38 _ _ hf
                  · refine z_iload C dL_reading_115 0 rfl ?_
                    refine z_iload C dL_reading_117 7 rfl ?_
                    refine z_iconst C (v := 1) dL_reading_119 (by decide) ?_
                    refine z_iadd C dL_reading_120 ?_
                    refine z_icmp_ne (tgt := 128) C dL_reading_121 (by decide) hf (fun hf => ?_) (fun hf => ?_)
                    · refine z_iconst C (v := 0) dL_reading_128 (by decide) ?_
                      refine z_sub [2, 3, 4, 5, 6, 9, 0] rfl ?_
                      exact kJ36 _ _ _ hf
                    · refine z_sub [2, 3, 4, 5, 6, 9, 0] rfl ?_
                      exact kJ38 _ _ hf
        · intro J25 kJ25 hf
          refine z_istore C dL_reading_65 (by decide) (lv' := [(8, .int x21), (0, .ref x12), (1, .int x13), (2, .int x14), (3, .int x15), (4, .int x16), (5, .int x17), (6, .int x18), (7, .int x19)]) rfl ?_
          refine z_iload_n C dL_reading_67 3 rfl rfl ?_
          refine z_if_eq (tgt := 78) C dL_reading_68 (by decide) hf (fun hf => ?_) (fun hf => ?_)
          · refine z_iload C dL_reading_78 8 rfl ?_
            refine z_iload C dL_reading_80 5 rfl ?_
            refine z_irem C dL_reading_82 hf (fun x39 _ hf => ?_)
            refine z_sub [1, 2, 3, 4, 5, 6, 7, 8, 0] rfl ?_
            exact kJ25 _ _ _ hf
          · refine z_iload C dL_reading_71 8 rfl ?_
            refine z_iload_n C dL_reading_73 4 rfl rfl ?_
            refine z_idiv C dL_reading_74 hf (fun x40 _ hf => ?_)
            refine z_goto (tgt := 83) C dL_reading_75 (by decide) ?_
            refine z_sub [1, 2, 3, 4, 5, 6, 7, 8, 0] rfl ?_
            exact kJ25 _ _ _ hf
      · intro J22 kJ22 hf
        refine z_iload_n C dL_reading_49 2 rfl rfl ?_
        refine z_if_eq (tgt := 60) C dL_reading_50 (by decide) hf (fun hf => ?_) (fun hf => ?_)
        · refine z_iload C dL_reading_60 7 rfl ?_
          refine z_iload C dL_reading_62 4 rfl ?_
          refine z_idiv C dL_reading_64 hf (fun x41 _ hf => ?_)
          exact kJ22 _ _ hf
        · refine z_iload C dL_reading_53 7 rfl ?_
          refine z_iload_n C dL_reading_55 3 rfl rfl ?_
          refine z_irem C dL_reading_56 hf (fun x42 _ hf => ?_)
          refine z_goto (tgt := 65) C dL_reading_57 (by decide) ?_
          exact kJ22 _ _ hf
def FL_reading (T : zT) (p0 : Nat) (p1 : Int32) (h : zH) : Option (Int32 × zH × Nat) := zJ (fun (x1 : Int32) (h2 : zH) => zcl (FL_about T p0 0 h2) fun x5 h6 => zcl (FL_about T p0 1 h6) fun x9 h10 => LL_reading_40 T p0 p1 x1 x5 x9 (fun (x43 : Int32) (x44 : Int32) (h45 : zH) => zJ (fun (x46 : Int32) (h47 : zH) => if x46 = 0 ∨ x46 = 1 then some (x46, h47, 0) else none) (fun J48 => zJ (fun (h49 : zH) => J48 0 h49) (fun J50 => if x44 = 0 then (J50 h45) else (zcl (FL_call T p0 3 p1 3 0 0 h45) fun x52 h53 => if (x43 + 1) = x52 then (J48 1 h53) else (J50 h53))))) FUEL (-1 : Int32) 1 0 h10) (fun J3 => zcl (FL_call T p0 3 p1 2 0 0 h) fun x56 h57 => if x56 = 0 then (J3 1 h57) else (J3 0 h57))
set_option maxHeartbeats 4000000 in
set_option maxRecDepth 100000 in
theorem BL_reading {X : zX} (CL : zCL X cL_reading 11 RL "reading" (some .boolean) 11 241) {hi : Nat} {h : zH} {p0 : Nat} {p1 : Int32} {rv : Int32} {rh : zH} {n9 : Nat} (hf : FL_reading (xT X) p0 p1 h = some (rv, rh, n9)) : zW X 11 (zZ X false (some (.int rv), hi, rh)) n9 (6 * n9) false hi h 0 [(0, .ref p0), (1, .int p1)] [] := by
  have C := CL.1
  unfold FL_reading at hf
  refine z_join (P := fun J => ∀ (x1 : Int32) (h2 : zH) (n9 : Nat), J x1 h2 = some (rv, rh, n9) → zW X 11 (zZ X false (some (.int rv), hi, rh)) n9 (6 * n9) false hi h2 17 [(0, .ref p0), (1, .int p1)] [.int x1]) hf ?_ ?_
  · intro x1 h2 n9 hf
    refine z_istore_n C dL_reading_17 rfl (by decide) (lv' := [(2, .int x1), (0, .ref p0), (1, .int p1)]) rfl ?_
    refine z_aload_n C dL_reading_18 1 rfl rfl ?_
    refine z_iconst C (v := 0) dL_reading_19 (by decide) ?_
    obtain ⟨x5, h6, m7, n9, g4, hf, e9⟩ := zclE hf
    refine z_callL (kc' := n9) (ks' := 6 * n9) CL (ML_about (xl X) CL.2.2.2 (xD X) (xT X) (xlo X) hi g4) cw_L_180 ys_L_about dL_reading_20 rfl ⟨Nat.le_of_ble_eq_true rfl, Nat.le_of_ble_eq_true rfl⟩ ⟨by show m7 + _ = _; omega, by show 6 * m7 + _ = _; omega⟩ (Nat.le_of_ble_eq_true rfl) (st := []) rfl ?_
    refine z_istore_n C dL_reading_23 rfl (by decide) (lv' := [(3, .int x5), (2, .int x1), (0, .ref p0), (1, .int p1)]) rfl ?_
    refine z_aload_n C dL_reading_24 2 rfl rfl ?_
    refine z_iconst C (v := 1) dL_reading_25 (by decide) ?_
    obtain ⟨x9, h10, m11, n9, g8, hf, e9⟩ := zclE hf
    refine z_callL (kc' := n9) (ks' := 6 * n9) CL (ML_about (xl X) CL.2.2.2 (xD X) (xT X) (xlo X) hi g8) cw_L_180 ys_L_about dL_reading_26 rfl ⟨Nat.le_of_ble_eq_true rfl, Nat.le_of_ble_eq_true rfl⟩ ⟨by show m11 + _ = _; omega, by show 6 * m11 + _ = _; omega⟩ (Nat.le_of_ble_eq_true rfl) (st := []) rfl ?_
    refine z_istore C dL_reading_29 (by decide) (lv' := [(4, .int x9), (3, .int x5), (2, .int x1), (0, .ref p0), (1, .int p1)]) rfl ?_
    refine z_iconst C (v := (-1 : Int32)) dL_reading_31 (by decide) ?_
    refine z_istore C dL_reading_32 (by decide) (lv' := [(5, .int (-1 : Int32)), (4, .int x9), (3, .int x5), (2, .int x1), (0, .ref p0), (1, .int p1)]) rfl ?_
    refine z_iconst C (v := 1) dL_reading_34 (by decide) ?_
    refine z_istore C dL_reading_35 (by decide) (lv' := [(6, .int 1), (5, .int (-1 : Int32)), (4, .int x9), (3, .int x5), (2, .int x1), (0, .ref p0), (1, .int p1)]) rfl ?_
    refine z_iconst C (v := 0) dL_reading_37 (by decide) ?_
    refine z_istore C dL_reading_38 (by decide) (lv' := [(7, .int 0), (6, .int 1), (5, .int (-1 : Int32)), (4, .int x9), (3, .int x5), (2, .int x1), (0, .ref p0), (1, .int p1)]) rfl ?_
    refine z_sub [6, 7, 5, 4, 3, 2, 1, 0] rfl ?_
    refine LL_reading_40_ok CL ?_ FUEL _ _ _ _ _ hf
    · intro x43 x44 h45 n9 hf
      refine z_join (P := fun J => ∀ (x46 : Int32) (h47 : zH) (n9 : Nat), J x46 h47 = some (rv, rh, n9) → zW X 11 (zZ X false (some (.int rv), hi, rh)) n9 (6 * n9) false hi h47 168 [] [.int x46]) hf ?_ ?_
      · intro x46 h47 n9 hf
        refine z_ite hf (fun c hf => ?_) (fun c hf => nomatch hf)
        exact z_zreturn C dL_reading_168 c (by cases hf; rfl)
      · intro J48 kJ48 hf
        refine z_join (P := fun J => ∀ (h49 : zH) (n9 : Nat), J h49 = some (rv, rh, n9) → zW X 11 (zZ X false (some (.int rv), hi, rh)) n9 (6 * n9) false hi h49 167 [] []) hf ?_ ?_
        · intro h49 n9 hf
          refine z_iconst C (v := 0) dL_reading_167 (by decide) ?_
          exact kJ48 _ _ _ hf
        · intro J50 kJ50 hf
          refine z_iload C dL_reading_142 3 rfl ?_
          refine z_if_eq (tgt := 167) C dL_reading_144 (by decide) hf (fun hf => ?_) (fun hf => ?_)
          · refine z_sub [] rfl ?_
            exact kJ50 _ _ hf
          · refine z_iload C dL_reading_147 2 rfl ?_
            refine z_iconst C (v := 1) dL_reading_149 (by decide) ?_
            refine z_iadd C dL_reading_150 ?_
            refine z_aload_n C dL_reading_151 0 rfl rfl ?_
            refine z_iconst C (v := 3) dL_reading_152 (by decide) ?_
            refine z_iload_n C dL_reading_153 1 rfl rfl ?_
            refine z_iconst C (v := 3) dL_reading_154 (by decide) ?_
            refine z_iconst C (v := 0) dL_reading_155 (by decide) ?_
            refine z_iconst C (v := 0) dL_reading_156 (by decide) ?_
            obtain ⟨x52, h53, m54, n9, g51, hf, e9⟩ := zclE hf
            refine z_callL (kc' := n9) (ks' := 6 * n9) CL (ML_call (xl X) CL.2.2.2 (xD X) (xT X) (xlo X) hi g51) cw_L_174 ys_L_call dL_reading_157 rfl ⟨Nat.le_of_ble_eq_true rfl, Nat.le_of_ble_eq_true rfl⟩ ⟨by show m54 + _ = _; omega, by show 6 * m54 + _ = _; omega⟩ (Nat.le_of_ble_eq_true rfl) (st := [.int (x43 + 1)]) rfl ?_
            refine z_icmp_ne (tgt := 167) C dL_reading_160 (by decide) hf (fun hf => ?_) (fun hf => ?_)
            · refine z_sub [] rfl ?_
              exact kJ50 _ _ hf
            · refine z_iconst C (v := 1) dL_reading_163 (by decide) ?_
              refine z_goto (tgt := 168) C dL_reading_164 (by decide) ?_
              refine z_sub [] rfl ?_
              exact kJ48 _ _ _ hf
  · intro J3 kJ3 hf
    refine z_aload_n C dL_reading_0 0 rfl rfl ?_
    refine z_iconst C (v := 3) dL_reading_1 (by decide) ?_
    refine z_iload_n C dL_reading_2 1 rfl rfl ?_
    refine z_iconst C (v := 2) dL_reading_3 (by decide) ?_
    refine z_iconst C (v := 0) dL_reading_4 (by decide) ?_
    refine z_iconst C (v := 0) dL_reading_5 (by decide) ?_
    obtain ⟨x56, h57, m58, n9, g55, hf, e9⟩ := zclE hf
    refine z_callL (kc' := n9) (ks' := 6 * n9) CL (ML_call (xl X) CL.2.2.2 (xD X) (xT X) (xlo X) hi g55) cw_L_174 ys_L_call dL_reading_6 rfl ⟨Nat.le_of_ble_eq_true rfl, Nat.le_of_ble_eq_true rfl⟩ ⟨by show m58 + _ = _; omega, by show 6 * m58 + _ = _; omega⟩ (Nat.le_of_ble_eq_true rfl) (st := []) rfl ?_
    refine z_if_ne (tgt := 16) C dL_reading_9 (by decide) hf (fun hf => ?_) (fun hf => ?_)
    · refine z_iconst C (v := 0) dL_reading_16 (by decide) ?_
      exact kJ3 _ _ _ hf
    · refine z_iconst C (v := 1) dL_reading_12 (by decide) ?_
      refine z_goto (tgt := 17) C dL_reading_13 (by decide) ?_
      exact kJ3 _ _ _ hf
theorem ML_reading (l : Launch) (hl9 : l.stackTraces = false) (D : va_G) (T : zT) (lo hi : Nat) {h : zH} {p0 : Nat} {p1 : Int32} {rv : Int32} {rh : zH} {n9 : Nat} (hf : FL_reading T p0 p1 h = some (rv, rh, n9)) : zMW l yL_reading (.code yL_reading cL_reading 11 (some .boolean) :: TW) ({ frames := 11, cells := n9, slots := 6 * n9, locals := 241 } : Room) D T lo [.ref p0, .int p1] hi h (some (.int rv), hi, rh) :=
  z_enterL hl9 (own := RL) (nm := "reading") (lv := [(0, .ref p0), (1, .int p1)]) (by decide +kernel) rfl rfl (Nat.le_of_ble_eq_true rfl) rfl (fun _ _ _ _ _ _ _ _ C => BL_reading C hf)
theorem dL_begin_0 : decode cL_begin 0 = .ok (.aload_n 0, 1) := by decide +kernel
theorem dL_begin_1 : decode cL_begin 1 = .ok (.iconst 0, 1) := by decide +kernel
theorem dL_begin_2 : decode cL_begin 2 = .ok (.bipush 83, 2) := by decide +kernel
theorem dL_begin_4 : decode cL_begin 4 = .ok (.iconst 0, 1) := by decide +kernel
theorem dL_begin_5 : decode cL_begin 5 = .ok (.iconst 0, 1) := by decide +kernel
theorem dL_begin_6 : decode cL_begin 6 = .ok (.iconst 0, 1) := by decide +kernel
theorem dL_begin_7 : decode cL_begin 7 = .ok (.invokestatic 174, 3) := by decide +kernel
theorem dL_begin_10 : decode cL_begin 10 = .ok (.iconst 1, 1) := by decide +kernel
theorem dL_begin_11 : decode cL_begin 11 = .ok (.if_icmp .ne 65, 3) := by decide +kernel
theorem dL_begin_14 : decode cL_begin 14 = .ok (.aload_n 0, 1) := by decide +kernel
theorem dL_begin_15 : decode cL_begin 15 = .ok (.invokevirtual 236, 3) := by decide +kernel
theorem dL_begin_18 : decode cL_begin 18 = .ok (.iconst 1, 1) := by decide +kernel
theorem dL_begin_19 : decode cL_begin 19 = .ok (.if_icmp .ne 57, 3) := by decide +kernel
theorem dL_begin_22 : decode cL_begin 22 = .ok (.aload_n 0, 1) := by decide +kernel
theorem dL_begin_23 : decode cL_begin 23 = .ok (.iconst 0, 1) := by decide +kernel
theorem dL_begin_24 : decode cL_begin 24 = .ok (.bipush 49, 2) := by decide +kernel
theorem dL_begin_26 : decode cL_begin 26 = .ok (.iload_n 1, 1) := by decide +kernel
theorem dL_begin_27 : decode cL_begin 27 = .ok (.bipush 9, 2) := by decide +kernel
theorem dL_begin_29 : decode cL_begin 29 = .ok (.irem, 1) := by decide +kernel
theorem dL_begin_30 : decode cL_begin 30 = .ok (.iadd, 1) := by decide +kernel
theorem dL_begin_31 : decode cL_begin 31 = .ok (.iconst 0, 1) := by decide +kernel
theorem dL_begin_32 : decode cL_begin 32 = .ok (.iconst 0, 1) := by decide +kernel
theorem dL_begin_33 : decode cL_begin 33 = .ok (.iconst 0, 1) := by decide +kernel
theorem dL_begin_34 : decode cL_begin 34 = .ok (.invokestatic 174, 3) := by decide +kernel
theorem dL_begin_37 : decode cL_begin 37 = .ok (.iconst 2, 1) := by decide +kernel
theorem dL_begin_38 : decode cL_begin 38 = .ok (.if_icmp .ne 38, 3) := by decide +kernel
theorem dL_begin_41 : decode cL_begin 41 = .ok (.aload_n 0, 1) := by decide +kernel
theorem dL_begin_42 : decode cL_begin 42 = .ok (.iconst 0, 1) := by decide +kernel
theorem dL_begin_43 : decode cL_begin 43 = .ok (.bipush 49, 2) := by decide +kernel
theorem dL_begin_45 : decode cL_begin 45 = .ok (.iload_n 1, 1) := by decide +kernel
theorem dL_begin_46 : decode cL_begin 46 = .ok (.bipush 9, 2) := by decide +kernel
theorem dL_begin_48 : decode cL_begin 48 = .ok (.idiv, 1) := by decide +kernel
theorem dL_begin_49 : decode cL_begin 49 = .ok (.bipush 9, 2) := by decide +kernel
theorem dL_begin_51 : decode cL_begin 51 = .ok (.irem, 1) := by decide +kernel
theorem dL_begin_52 : decode cL_begin 52 = .ok (.iadd, 1) := by decide +kernel
theorem dL_begin_53 : decode cL_begin 53 = .ok (.iconst 0, 1) := by decide +kernel
theorem dL_begin_54 : decode cL_begin 54 = .ok (.iconst 0, 1) := by decide +kernel
theorem dL_begin_55 : decode cL_begin 55 = .ok (.iconst 0, 1) := by decide +kernel
theorem dL_begin_56 : decode cL_begin 56 = .ok (.invokestatic 174, 3) := by decide +kernel
theorem dL_begin_59 : decode cL_begin 59 = .ok (.iconst 3, 1) := by decide +kernel
theorem dL_begin_60 : decode cL_begin 60 = .ok (.if_icmp .ne 16, 3) := by decide +kernel
theorem dL_begin_63 : decode cL_begin 63 = .ok (.aload_n 0, 1) := by decide +kernel
theorem dL_begin_64 : decode cL_begin 64 = .ok (.invokevirtual 236, 3) := by decide +kernel
theorem dL_begin_67 : decode cL_begin 67 = .ok (.bipush (-9), 2) := by decide +kernel
theorem dL_begin_69 : decode cL_begin 69 = .ok (.if_icmp .ne 7, 3) := by decide +kernel
theorem dL_begin_72 : decode cL_begin 72 = .ok (.iconst 1, 1) := by decide +kernel
theorem dL_begin_73 : decode cL_begin 73 = .ok (.goto 4, 3) := by decide +kernel
theorem dL_begin_76 : decode cL_begin 76 = .ok (.iconst 0, 1) := by decide +kernel
theorem dL_begin_77 : decode cL_begin 77 = .ok (.istore_n 2, 1) := by decide +kernel
theorem dL_begin_78 : decode cL_begin 78 = .ok (.iload_n 2, 1) := by decide +kernel
theorem dL_begin_79 : decode cL_begin 79 = .ok (.ifCond .eq 123, 3) := by decide +kernel
theorem dL_begin_82 : decode cL_begin 82 = .ok (.aload_n 0, 1) := by decide +kernel
theorem dL_begin_83 : decode cL_begin 83 = .ok (.iconst 0, 1) := by decide +kernel
theorem dL_begin_84 : decode cL_begin 84 = .ok (.bipush 112, 2) := by decide +kernel
theorem dL_begin_86 : decode cL_begin 86 = .ok (.iconst 0, 1) := by decide +kernel
theorem dL_begin_87 : decode cL_begin 87 = .ok (.iconst 0, 1) := by decide +kernel
theorem dL_begin_88 : decode cL_begin 88 = .ok (.iconst 0, 1) := by decide +kernel
theorem dL_begin_89 : decode cL_begin 89 = .ok (.invokestatic 174, 3) := by decide +kernel
theorem dL_begin_92 : decode cL_begin 92 = .ok (.iconst 4, 1) := by decide +kernel
theorem dL_begin_93 : decode cL_begin 93 = .ok (.if_icmp .ne 109, 3) := by decide +kernel
theorem dL_begin_96 : decode cL_begin 96 = .ok (.aload_n 0, 1) := by decide +kernel
theorem dL_begin_97 : decode cL_begin 97 = .ok (.iconst 0, 1) := by decide +kernel
theorem dL_begin_98 : decode cL_begin 98 = .ok (.bipush 49, 2) := by decide +kernel
theorem dL_begin_100 : decode cL_begin 100 = .ok (.iconst 0, 1) := by decide +kernel
theorem dL_begin_101 : decode cL_begin 101 = .ok (.iconst 0, 1) := by decide +kernel
theorem dL_begin_102 : decode cL_begin 102 = .ok (.iconst 0, 1) := by decide +kernel
theorem dL_begin_103 : decode cL_begin 103 = .ok (.invokestatic 174, 3) := by decide +kernel
theorem dL_begin_106 : decode cL_begin 106 = .ok (.iconst 5, 1) := by decide +kernel
theorem dL_begin_107 : decode cL_begin 107 = .ok (.if_icmp .ne 95, 3) := by decide +kernel
theorem dL_begin_110 : decode cL_begin 110 = .ok (.aload_n 0, 1) := by decide +kernel
theorem dL_begin_111 : decode cL_begin 111 = .ok (.iconst 0, 1) := by decide +kernel
theorem dL_begin_112 : decode cL_begin 112 = .ok (.bipush 48, 2) := by decide +kernel
theorem dL_begin_114 : decode cL_begin 114 = .ok (.iload_n 1, 1) := by decide +kernel
theorem dL_begin_115 : decode cL_begin 115 = .ok (.sipush 128, 3) := by decide +kernel
theorem dL_begin_118 : decode cL_begin 118 = .ok (.idiv, 1) := by decide +kernel
theorem dL_begin_119 : decode cL_begin 119 = .ok (.iconst 4, 1) := by decide +kernel
theorem dL_begin_120 : decode cL_begin 120 = .ok (.irem, 1) := by decide +kernel
theorem dL_begin_121 : decode cL_begin 121 = .ok (.iadd, 1) := by decide +kernel
theorem dL_begin_122 : decode cL_begin 122 = .ok (.iconst 0, 1) := by decide +kernel
theorem dL_begin_123 : decode cL_begin 123 = .ok (.iconst 0, 1) := by decide +kernel
theorem dL_begin_124 : decode cL_begin 124 = .ok (.iconst 0, 1) := by decide +kernel
theorem dL_begin_125 : decode cL_begin 125 = .ok (.invokestatic 174, 3) := by decide +kernel
theorem dL_begin_128 : decode cL_begin 128 = .ok (.bipush 6, 2) := by decide +kernel
theorem dL_begin_130 : decode cL_begin 130 = .ok (.if_icmp .ne 72, 3) := by decide +kernel
theorem dL_begin_133 : decode cL_begin 133 = .ok (.aload_n 0, 1) := by decide +kernel
theorem dL_begin_134 : decode cL_begin 134 = .ok (.iconst 0, 1) := by decide +kernel
theorem dL_begin_135 : decode cL_begin 135 = .ok (.bipush 48, 2) := by decide +kernel
theorem dL_begin_137 : decode cL_begin 137 = .ok (.iload_n 1, 1) := by decide +kernel
theorem dL_begin_138 : decode cL_begin 138 = .ok (.sipush 512, 3) := by decide +kernel
theorem dL_begin_141 : decode cL_begin 141 = .ok (.idiv, 1) := by decide +kernel
theorem dL_begin_142 : decode cL_begin 142 = .ok (.bipush 9, 2) := by decide +kernel
theorem dL_begin_144 : decode cL_begin 144 = .ok (.irem, 1) := by decide +kernel
theorem dL_begin_145 : decode cL_begin 145 = .ok (.iadd, 1) := by decide +kernel
theorem dL_begin_146 : decode cL_begin 146 = .ok (.iconst 0, 1) := by decide +kernel
theorem dL_begin_147 : decode cL_begin 147 = .ok (.iconst 0, 1) := by decide +kernel
theorem dL_begin_148 : decode cL_begin 148 = .ok (.iconst 0, 1) := by decide +kernel
theorem dL_begin_149 : decode cL_begin 149 = .ok (.invokestatic 174, 3) := by decide +kernel
theorem dL_begin_152 : decode cL_begin 152 = .ok (.bipush 7, 2) := by decide +kernel
theorem dL_begin_154 : decode cL_begin 154 = .ok (.if_icmp .ne 48, 3) := by decide +kernel
theorem dL_begin_157 : decode cL_begin 157 = .ok (.aload_n 0, 1) := by decide +kernel
theorem dL_begin_158 : decode cL_begin 158 = .ok (.invokevirtual 236, 3) := by decide +kernel
theorem dL_begin_161 : decode cL_begin 161 = .ok (.bipush 7, 2) := by decide +kernel
theorem dL_begin_163 : decode cL_begin 163 = .ok (.if_icmp .ne 39, 3) := by decide +kernel
theorem dL_begin_166 : decode cL_begin 166 = .ok (.aload_n 0, 1) := by decide +kernel
theorem dL_begin_167 : decode cL_begin 167 = .ok (.iconst 0, 1) := by decide +kernel
theorem dL_begin_168 : decode cL_begin 168 = .ok (.bipush 48, 2) := by decide +kernel
theorem dL_begin_170 : decode cL_begin 170 = .ok (.iload_n 1, 1) := by decide +kernel
theorem dL_begin_171 : decode cL_begin 171 = .ok (.sipush 8192, 3) := by decide +kernel
theorem dL_begin_174 : decode cL_begin 174 = .ok (.idiv, 1) := by decide +kernel
theorem dL_begin_175 : decode cL_begin 175 = .ok (.iconst 2, 1) := by decide +kernel
theorem dL_begin_176 : decode cL_begin 176 = .ok (.irem, 1) := by decide +kernel
theorem dL_begin_177 : decode cL_begin 177 = .ok (.iadd, 1) := by decide +kernel
theorem dL_begin_178 : decode cL_begin 178 = .ok (.iconst 0, 1) := by decide +kernel
theorem dL_begin_179 : decode cL_begin 179 = .ok (.iconst 0, 1) := by decide +kernel
theorem dL_begin_180 : decode cL_begin 180 = .ok (.iconst 0, 1) := by decide +kernel
theorem dL_begin_181 : decode cL_begin 181 = .ok (.invokestatic 174, 3) := by decide +kernel
theorem dL_begin_184 : decode cL_begin 184 = .ok (.bipush 8, 2) := by decide +kernel
theorem dL_begin_186 : decode cL_begin 186 = .ok (.if_icmp .ne 16, 3) := by decide +kernel
theorem dL_begin_189 : decode cL_begin 189 = .ok (.aload_n 0, 1) := by decide +kernel
theorem dL_begin_190 : decode cL_begin 190 = .ok (.invokevirtual 236, 3) := by decide +kernel
theorem dL_begin_193 : decode cL_begin 193 = .ok (.bipush (-9), 2) := by decide +kernel
theorem dL_begin_195 : decode cL_begin 195 = .ok (.if_icmp .ne 7, 3) := by decide +kernel
theorem dL_begin_198 : decode cL_begin 198 = .ok (.iconst 1, 1) := by decide +kernel
theorem dL_begin_199 : decode cL_begin 199 = .ok (.goto 4, 3) := by decide +kernel
theorem dL_begin_202 : decode cL_begin 202 = .ok (.iconst 0, 1) := by decide +kernel
theorem dL_begin_203 : decode cL_begin 203 = .ok (.istore_n 2, 1) := by decide +kernel
theorem dL_begin_204 : decode cL_begin 204 = .ok (.iload_n 2, 1) := by decide +kernel
theorem dL_begin_205 : decode cL_begin 205 = .ok (.ifCond .eq 19, 3) := by decide +kernel
theorem dL_begin_208 : decode cL_begin 208 = .ok (.aload_n 0, 1) := by decide +kernel
theorem dL_begin_209 : decode cL_begin 209 = .ok (.iconst 1, 1) := by decide +kernel
theorem dL_begin_210 : decode cL_begin 210 = .ok (.iconst 0, 1) := by decide +kernel
theorem dL_begin_211 : decode cL_begin 211 = .ok (.iconst 0, 1) := by decide +kernel
theorem dL_begin_212 : decode cL_begin 212 = .ok (.iconst 0, 1) := by decide +kernel
theorem dL_begin_213 : decode cL_begin 213 = .ok (.iconst 0, 1) := by decide +kernel
theorem dL_begin_214 : decode cL_begin 214 = .ok (.invokestatic 174, 3) := by decide +kernel
theorem dL_begin_217 : decode cL_begin 217 = .ok (.ifCond .ne 7, 3) := by decide +kernel
theorem dL_begin_220 : decode cL_begin 220 = .ok (.iconst 1, 1) := by decide +kernel
theorem dL_begin_221 : decode cL_begin 221 = .ok (.goto 4, 3) := by decide +kernel
theorem dL_begin_224 : decode cL_begin 224 = .ok (.iconst 0, 1) := by decide +kernel
theorem dL_begin_225 : decode cL_begin 225 = .ok (.ireturn, 1) := by decide +kernel
def FL_begin (T : zT) (p0 : Nat) (p1 : Int32) (h : zH) : Option (Int32 × zH × Nat) := zJ (fun (x1 : Int32) (h2 : zH) => zJ (fun (x4 : Int32) (h5 : zH) => zJ (fun (x7 : Int32) (h8 : zH) => if x7 = 0 ∨ x7 = 1 then some (x7, h8, 0) else none) (fun J9 => zJ (fun (h10 : zH) => J9 0 h10) (fun J11 => if x4 = 0 then (J11 h5) else (zcl (FL_call T p0 1 0 0 0 0 h5) fun x13 h14 => if x13 = 0 then (J9 1 h14) else (J11 h14))))) (fun J6 => zJ (fun (h16 : zH) => J6 0 h16) (fun J17 => if x1 = 0 then (J17 h2) else (zcl (FL_call T p0 0 112 0 0 0 h2) fun x19 h20 => if x19 = 4 then (zcl (FL_call T p0 0 49 0 0 0 h20) fun x23 h24 => if x23 = 5 then ((zdivI p1 128).bind fun x26 => (zremI x26 4).bind fun x27 => zcl (FL_call T p0 0 (48 + x27) 0 0 0 h24) fun x29 h30 => if x29 = 6 then ((zdivI p1 512).bind fun x32 => (zremI x32 9).bind fun x33 => zcl (FL_call T p0 0 (48 + x33) 0 0 0 h30) fun x35 h36 => if x35 = 7 then (zb2 (FX6_errorPosition T p0 h36) fun x39 h40 => if x39 = 7 then ((zdivI p1 8192).bind fun x41 => (zremI x41 2).bind fun x42 => zcl (FL_call T p0 0 (48 + x42) 0 0 0 h40) fun x44 h45 => if x44 = 8 then (zb2 (FX6_errorPosition T p0 h45) fun x48 h49 => if x48 = (-9 : Int32) then (J6 1 h49) else (J17 h49)) else (J17 h45)) else (J17 h40)) else (J17 h36)) else (J17 h30)) else (J17 h24)) else (J17 h20))))) (fun J3 => zJ (fun (h50 : zH) => J3 0 h50) (fun J51 => zcl (FL_call T p0 0 83 0 0 0 h) fun x53 h54 => if x53 = 1 then (zb2 (FX6_errorPosition T p0 h54) fun x57 h58 => if x57 = 1 then ((zremI p1 9).bind fun x59 => zcl (FL_call T p0 0 (49 + x59) 0 0 0 h58) fun x61 h62 => if x61 = 2 then ((zdivI p1 9).bind fun x64 => (zremI x64 9).bind fun x65 => zcl (FL_call T p0 0 (49 + x65) 0 0 0 h62) fun x67 h68 => if x67 = 3 then (zb2 (FX6_errorPosition T p0 h68) fun x71 h72 => if x71 = (-9 : Int32) then (J3 1 h72) else (J51 h72)) else (J51 h68)) else (J51 h62)) else (J51 h58)) else (J51 h54)))
set_option maxHeartbeats 4000000 in
set_option maxRecDepth 100000 in
theorem BL_begin {X : zX} (CL : zCL X cL_begin 3 RL "begin" (some .boolean) 10 220) {hi : Nat} {h : zH} {p0 : Nat} {p1 : Int32} {rv : Int32} {rh : zH} {n9 : Nat} (hf : FL_begin (xT X) p0 p1 h = some (rv, rh, n9)) : zW X 3 (zZ X false (some (.int rv), hi, rh)) n9 (6 * n9) false hi h 0 [(0, .ref p0), (1, .int p1)] [] := by
  have C := CL.1
  unfold FL_begin at hf
  refine z_join (P := fun J => ∀ (x1 : Int32) (h2 : zH) (n9 : Nat), J x1 h2 = some (rv, rh, n9) → zW X 3 (zZ X false (some (.int rv), hi, rh)) n9 (6 * n9) false hi h2 77 [(0, .ref p0), (1, .int p1)] [.int x1]) hf ?_ ?_
  · intro x1 h2 n9 hf
    refine z_join (P := fun J => ∀ (x4 : Int32) (h5 : zH) (n9 : Nat), J x4 h5 = some (rv, rh, n9) → zW X 3 (zZ X false (some (.int rv), hi, rh)) n9 (6 * n9) false hi h5 203 [(0, .ref p0)] [.int x4]) hf ?_ ?_
    · intro x4 h5 n9 hf
      refine z_join (P := fun J => ∀ (x7 : Int32) (h8 : zH) (n9 : Nat), J x7 h8 = some (rv, rh, n9) → zW X 3 (zZ X false (some (.int rv), hi, rh)) n9 (6 * n9) false hi h8 225 [] [.int x7]) hf ?_ ?_
      · intro x7 h8 n9 hf
        refine z_ite hf (fun c hf => ?_) (fun c hf => nomatch hf)
        exact z_zreturn C dL_begin_225 c (by cases hf; rfl)
      · intro J9 kJ9 hf
        refine z_join (P := fun J => ∀ (h10 : zH) (n9 : Nat), J h10 = some (rv, rh, n9) → zW X 3 (zZ X false (some (.int rv), hi, rh)) n9 (6 * n9) false hi h10 224 [] []) hf ?_ ?_
        · intro h10 n9 hf
          refine z_iconst C (v := 0) dL_begin_224 (by decide) ?_
          exact kJ9 _ _ _ hf
        · intro J11 kJ11 hf
          refine z_istore_n C dL_begin_203 rfl (by decide) (lv' := [(2, .int x4), (0, .ref p0)]) rfl ?_
          refine z_iload_n C dL_begin_204 0 rfl rfl ?_
          refine z_if_eq (tgt := 224) C dL_begin_205 (by decide) hf (fun hf => ?_) (fun hf => ?_)
          · refine z_sub [] rfl ?_
            exact kJ11 _ _ hf
          · refine z_aload_n C dL_begin_208 1 rfl rfl ?_
            refine z_iconst C (v := 1) dL_begin_209 (by decide) ?_
            refine z_iconst C (v := 0) dL_begin_210 (by decide) ?_
            refine z_iconst C (v := 0) dL_begin_211 (by decide) ?_
            refine z_iconst C (v := 0) dL_begin_212 (by decide) ?_
            refine z_iconst C (v := 0) dL_begin_213 (by decide) ?_
            obtain ⟨x13, h14, m15, n9, g12, hf, e9⟩ := zclE hf
            refine z_callL (kc' := n9) (ks' := 6 * n9) CL (ML_call (xl X) CL.2.2.2 (xD X) (xT X) (xlo X) hi g12) cw_L_174 ys_L_call dL_begin_214 rfl ⟨Nat.le_of_ble_eq_true rfl, Nat.le_of_ble_eq_true rfl⟩ ⟨by show m15 + _ = _; omega, by show 6 * m15 + _ = _; omega⟩ (Nat.le_of_ble_eq_true rfl) (st := []) rfl ?_
            refine z_if_ne (tgt := 224) C dL_begin_217 (by decide) hf (fun hf => ?_) (fun hf => ?_)
            · refine z_sub [] rfl ?_
              exact kJ11 _ _ hf
            · refine z_iconst C (v := 1) dL_begin_220 (by decide) ?_
              refine z_goto (tgt := 225) C dL_begin_221 (by decide) ?_
              refine z_sub [] rfl ?_
              exact kJ9 _ _ _ hf
    · intro J6 kJ6 hf
      refine z_join (P := fun J => ∀ (h16 : zH) (n9 : Nat), J h16 = some (rv, rh, n9) → zW X 3 (zZ X false (some (.int rv), hi, rh)) n9 (6 * n9) false hi h16 202 [(0, .ref p0)] []) hf ?_ ?_
      · intro h16 n9 hf
        refine z_iconst C (v := 0) dL_begin_202 (by decide) ?_
        exact kJ6 _ _ _ hf
      · intro J17 kJ17 hf
        refine z_istore_n C dL_begin_77 rfl (by decide) (lv' := [(2, .int x1), (0, .ref p0), (1, .int p1)]) rfl ?_
        refine z_iload_n C dL_begin_78 0 rfl rfl ?_
        refine z_if_eq (tgt := 202) C dL_begin_79 (by decide) hf (fun hf => ?_) (fun hf => ?_)
        · refine z_sub [1] rfl ?_
          exact kJ17 _ _ hf
        · refine z_aload_n C dL_begin_82 1 rfl rfl ?_
          refine z_iconst C (v := 0) dL_begin_83 (by decide) ?_
          refine z_bipush C (v := 112) dL_begin_84 (by decide) ?_
          refine z_iconst C (v := 0) dL_begin_86 (by decide) ?_
          refine z_iconst C (v := 0) dL_begin_87 (by decide) ?_
          refine z_iconst C (v := 0) dL_begin_88 (by decide) ?_
          obtain ⟨x19, h20, m21, n9, g18, hf, e9⟩ := zclE hf
          refine z_callL (kc' := n9) (ks' := 6 * n9) CL (ML_call (xl X) CL.2.2.2 (xD X) (xT X) (xlo X) hi g18) cw_L_174 ys_L_call dL_begin_89 rfl ⟨Nat.le_of_ble_eq_true rfl, Nat.le_of_ble_eq_true rfl⟩ ⟨by show m21 + _ = _; omega, by show 6 * m21 + _ = _; omega⟩ (Nat.le_of_ble_eq_true rfl) (st := []) rfl ?_
          refine z_iconst C (v := 4) dL_begin_92 (by decide) ?_
          refine z_icmp_ne (tgt := 202) C dL_begin_93 (by decide) hf (fun hf => ?_) (fun hf => ?_)
          · refine z_sub [1] rfl ?_
            exact kJ17 _ _ hf
          · refine z_aload_n C dL_begin_96 1 rfl rfl ?_
            refine z_iconst C (v := 0) dL_begin_97 (by decide) ?_
            refine z_bipush C (v := 49) dL_begin_98 (by decide) ?_
            refine z_iconst C (v := 0) dL_begin_100 (by decide) ?_
            refine z_iconst C (v := 0) dL_begin_101 (by decide) ?_
            refine z_iconst C (v := 0) dL_begin_102 (by decide) ?_
            obtain ⟨x23, h24, m25, n9, g22, hf, e9⟩ := zclE hf
            refine z_callL (kc' := n9) (ks' := 6 * n9) CL (ML_call (xl X) CL.2.2.2 (xD X) (xT X) (xlo X) hi g22) cw_L_174 ys_L_call dL_begin_103 rfl ⟨Nat.le_of_ble_eq_true rfl, Nat.le_of_ble_eq_true rfl⟩ ⟨by show m25 + _ = _; omega, by show 6 * m25 + _ = _; omega⟩ (Nat.le_of_ble_eq_true rfl) (st := []) rfl ?_
            refine z_iconst C (v := 5) dL_begin_106 (by decide) ?_
            refine z_icmp_ne (tgt := 202) C dL_begin_107 (by decide) hf (fun hf => ?_) (fun hf => ?_)
            · refine z_sub [1] rfl ?_
              exact kJ17 _ _ hf
            · refine z_aload_n C dL_begin_110 1 rfl rfl ?_
              refine z_iconst C (v := 0) dL_begin_111 (by decide) ?_
              refine z_bipush C (v := 48) dL_begin_112 (by decide) ?_
              refine z_iload_n C dL_begin_114 2 rfl rfl ?_
              refine z_sipush C (v := 128) dL_begin_115 (by decide) ?_
              refine z_idiv C dL_begin_118 hf (fun x26 _ hf => ?_)
              refine z_iconst C (v := 4) dL_begin_119 (by decide) ?_
              refine z_irem C dL_begin_120 hf (fun x27 _ hf => ?_)
              refine z_iadd C dL_begin_121 ?_
              refine z_iconst C (v := 0) dL_begin_122 (by decide) ?_
              refine z_iconst C (v := 0) dL_begin_123 (by decide) ?_
              refine z_iconst C (v := 0) dL_begin_124 (by decide) ?_
              obtain ⟨x29, h30, m31, n9, g28, hf, e9⟩ := zclE hf
              refine z_callL (kc' := n9) (ks' := 6 * n9) CL (ML_call (xl X) CL.2.2.2 (xD X) (xT X) (xlo X) hi g28) cw_L_174 ys_L_call dL_begin_125 rfl ⟨Nat.le_of_ble_eq_true rfl, Nat.le_of_ble_eq_true rfl⟩ ⟨by show m31 + _ = _; omega, by show 6 * m31 + _ = _; omega⟩ (Nat.le_of_ble_eq_true rfl) (st := []) rfl ?_
              refine z_bipush C (v := 6) dL_begin_128 (by decide) ?_
              refine z_icmp_ne (tgt := 202) C dL_begin_130 (by decide) hf (fun hf => ?_) (fun hf => ?_)
              · refine z_sub [1] rfl ?_
                exact kJ17 _ _ hf
              · refine z_aload_n C dL_begin_133 1 rfl rfl ?_
                refine z_iconst C (v := 0) dL_begin_134 (by decide) ?_
                refine z_bipush C (v := 48) dL_begin_135 (by decide) ?_
                refine z_iload_n C dL_begin_137 2 rfl rfl ?_
                refine z_sipush C (v := 512) dL_begin_138 (by decide) ?_
                refine z_idiv C dL_begin_141 hf (fun x32 _ hf => ?_)
                refine z_bipush C (v := 9) dL_begin_142 (by decide) ?_
                refine z_irem C dL_begin_144 hf (fun x33 _ hf => ?_)
                refine z_iadd C dL_begin_145 ?_
                refine z_iconst C (v := 0) dL_begin_146 (by decide) ?_
                refine z_iconst C (v := 0) dL_begin_147 (by decide) ?_
                refine z_iconst C (v := 0) dL_begin_148 (by decide) ?_
                obtain ⟨x35, h36, m37, n9, g34, hf, e9⟩ := zclE hf
                refine z_callL (kc' := n9) (ks' := 6 * n9) CL (ML_call (xl X) CL.2.2.2 (xD X) (xT X) (xlo X) hi g34) cw_L_174 ys_L_call dL_begin_149 rfl ⟨Nat.le_of_ble_eq_true rfl, Nat.le_of_ble_eq_true rfl⟩ ⟨by show m37 + _ = _; omega, by show 6 * m37 + _ = _; omega⟩ (Nat.le_of_ble_eq_true rfl) (st := []) rfl ?_
                refine z_bipush C (v := 7) dL_begin_152 (by decide) ?_
                refine z_icmp_ne (tgt := 202) C dL_begin_154 (by decide) hf (fun hf => ?_) (fun hf => ?_)
                · refine z_sub [1] rfl ?_
                  exact kJ17 _ _ hf
                · refine z_aload_n C dL_begin_157 1 rfl rfl ?_
                  obtain ⟨x39, h40, g38, hf⟩ := zbind2 hf
                  refine z_callV C (MX6_errorPosition (xl X) (xD X) (xT X) (xlo X) false hi g38) (OX6_errorPosition g38) rfl cw_L_236 yv_X6_errorPosition dL_begin_158 rfl (by decide) ⟨Nat.zero_add _, Nat.zero_add _⟩ (Nat.le_of_ble_eq_true rfl) (st := []) rfl ?_
                  refine z_bipush C (v := 7) dL_begin_161 (by decide) ?_
                  refine z_icmp_ne (tgt := 202) C dL_begin_163 (by decide) hf (fun hf => ?_) (fun hf => ?_)
                  · refine z_sub [1] rfl ?_
                    exact kJ17 _ _ hf
                  · refine z_aload_n C dL_begin_166 1 rfl rfl ?_
                    refine z_iconst C (v := 0) dL_begin_167 (by decide) ?_
                    refine z_bipush C (v := 48) dL_begin_168 (by decide) ?_
                    refine z_iload_n C dL_begin_170 2 rfl rfl ?_
                    refine z_sipush C (v := 8192) dL_begin_171 (by decide) ?_
                    refine z_idiv C dL_begin_174 hf (fun x41 _ hf => ?_)
                    refine z_iconst C (v := 2) dL_begin_175 (by decide) ?_
                    refine z_irem C dL_begin_176 hf (fun x42 _ hf => ?_)
                    refine z_iadd C dL_begin_177 ?_
                    refine z_iconst C (v := 0) dL_begin_178 (by decide) ?_
                    refine z_iconst C (v := 0) dL_begin_179 (by decide) ?_
                    refine z_iconst C (v := 0) dL_begin_180 (by decide) ?_
                    obtain ⟨x44, h45, m46, n9, g43, hf, e9⟩ := zclE hf
                    refine z_callL (kc' := n9) (ks' := 6 * n9) CL (ML_call (xl X) CL.2.2.2 (xD X) (xT X) (xlo X) hi g43) cw_L_174 ys_L_call dL_begin_181 rfl ⟨Nat.le_of_ble_eq_true rfl, Nat.le_of_ble_eq_true rfl⟩ ⟨by show m46 + _ = _; omega, by show 6 * m46 + _ = _; omega⟩ (Nat.le_of_ble_eq_true rfl) (st := []) rfl ?_
                    refine z_bipush C (v := 8) dL_begin_184 (by decide) ?_
                    refine z_icmp_ne (tgt := 202) C dL_begin_186 (by decide) hf (fun hf => ?_) (fun hf => ?_)
                    · refine z_sub [1] rfl ?_
                      exact kJ17 _ _ hf
                    · refine z_aload_n C dL_begin_189 1 rfl rfl ?_
                      obtain ⟨x48, h49, g47, hf⟩ := zbind2 hf
                      refine z_callV C (MX6_errorPosition (xl X) (xD X) (xT X) (xlo X) false hi g47) (OX6_errorPosition g47) rfl cw_L_236 yv_X6_errorPosition dL_begin_190 rfl (by decide) ⟨Nat.zero_add _, Nat.zero_add _⟩ (Nat.le_of_ble_eq_true rfl) (st := []) rfl ?_
                      refine z_bipush C (v := (-9 : Int32)) dL_begin_193 (by decide) ?_
                      refine z_icmp_ne (tgt := 202) C dL_begin_195 (by decide) hf (fun hf => ?_) (fun hf => ?_)
                      · refine z_sub [1] rfl ?_
                        exact kJ17 _ _ hf
                      · refine z_iconst C (v := 1) dL_begin_198 (by decide) ?_
                        refine z_goto (tgt := 203) C dL_begin_199 (by decide) ?_
                        refine z_sub [1] rfl ?_
                        exact kJ6 _ _ _ hf
  · intro J3 kJ3 hf
    refine z_join (P := fun J => ∀ (h50 : zH) (n9 : Nat), J h50 = some (rv, rh, n9) → zW X 3 (zZ X false (some (.int rv), hi, rh)) n9 (6 * n9) false hi h50 76 [(0, .ref p0), (1, .int p1)] []) hf ?_ ?_
    · intro h50 n9 hf
      refine z_iconst C (v := 0) dL_begin_76 (by decide) ?_
      exact kJ3 _ _ _ hf
    · intro J51 kJ51 hf
      refine z_aload_n C dL_begin_0 0 rfl rfl ?_
      refine z_iconst C (v := 0) dL_begin_1 (by decide) ?_
      refine z_bipush C (v := 83) dL_begin_2 (by decide) ?_
      refine z_iconst C (v := 0) dL_begin_4 (by decide) ?_
      refine z_iconst C (v := 0) dL_begin_5 (by decide) ?_
      refine z_iconst C (v := 0) dL_begin_6 (by decide) ?_
      obtain ⟨x53, h54, m55, n9, g52, hf, e9⟩ := zclE hf
      refine z_callL (kc' := n9) (ks' := 6 * n9) CL (ML_call (xl X) CL.2.2.2 (xD X) (xT X) (xlo X) hi g52) cw_L_174 ys_L_call dL_begin_7 rfl ⟨Nat.le_of_ble_eq_true rfl, Nat.le_of_ble_eq_true rfl⟩ ⟨by show m55 + _ = _; omega, by show 6 * m55 + _ = _; omega⟩ (Nat.le_of_ble_eq_true rfl) (st := []) rfl ?_
      refine z_iconst C (v := 1) dL_begin_10 (by decide) ?_
      refine z_icmp_ne (tgt := 76) C dL_begin_11 (by decide) hf (fun hf => ?_) (fun hf => ?_)
      · exact kJ51 _ _ hf
      · refine z_aload_n C dL_begin_14 0 rfl rfl ?_
        obtain ⟨x57, h58, g56, hf⟩ := zbind2 hf
        refine z_callV C (MX6_errorPosition (xl X) (xD X) (xT X) (xlo X) false hi g56) (OX6_errorPosition g56) rfl cw_L_236 yv_X6_errorPosition dL_begin_15 rfl (by decide) ⟨Nat.zero_add _, Nat.zero_add _⟩ (Nat.le_of_ble_eq_true rfl) (st := []) rfl ?_
        refine z_iconst C (v := 1) dL_begin_18 (by decide) ?_
        refine z_icmp_ne (tgt := 76) C dL_begin_19 (by decide) hf (fun hf => ?_) (fun hf => ?_)
        · exact kJ51 _ _ hf
        · refine z_aload_n C dL_begin_22 0 rfl rfl ?_
          refine z_iconst C (v := 0) dL_begin_23 (by decide) ?_
          refine z_bipush C (v := 49) dL_begin_24 (by decide) ?_
          refine z_iload_n C dL_begin_26 1 rfl rfl ?_
          refine z_bipush C (v := 9) dL_begin_27 (by decide) ?_
          refine z_irem C dL_begin_29 hf (fun x59 _ hf => ?_)
          refine z_iadd C dL_begin_30 ?_
          refine z_iconst C (v := 0) dL_begin_31 (by decide) ?_
          refine z_iconst C (v := 0) dL_begin_32 (by decide) ?_
          refine z_iconst C (v := 0) dL_begin_33 (by decide) ?_
          obtain ⟨x61, h62, m63, n9, g60, hf, e9⟩ := zclE hf
          refine z_callL (kc' := n9) (ks' := 6 * n9) CL (ML_call (xl X) CL.2.2.2 (xD X) (xT X) (xlo X) hi g60) cw_L_174 ys_L_call dL_begin_34 rfl ⟨Nat.le_of_ble_eq_true rfl, Nat.le_of_ble_eq_true rfl⟩ ⟨by show m63 + _ = _; omega, by show 6 * m63 + _ = _; omega⟩ (Nat.le_of_ble_eq_true rfl) (st := []) rfl ?_
          refine z_iconst C (v := 2) dL_begin_37 (by decide) ?_
          refine z_icmp_ne (tgt := 76) C dL_begin_38 (by decide) hf (fun hf => ?_) (fun hf => ?_)
          · exact kJ51 _ _ hf
          · refine z_aload_n C dL_begin_41 0 rfl rfl ?_
            refine z_iconst C (v := 0) dL_begin_42 (by decide) ?_
            refine z_bipush C (v := 49) dL_begin_43 (by decide) ?_
            refine z_iload_n C dL_begin_45 1 rfl rfl ?_
            refine z_bipush C (v := 9) dL_begin_46 (by decide) ?_
            refine z_idiv C dL_begin_48 hf (fun x64 _ hf => ?_)
            refine z_bipush C (v := 9) dL_begin_49 (by decide) ?_
            refine z_irem C dL_begin_51 hf (fun x65 _ hf => ?_)
            refine z_iadd C dL_begin_52 ?_
            refine z_iconst C (v := 0) dL_begin_53 (by decide) ?_
            refine z_iconst C (v := 0) dL_begin_54 (by decide) ?_
            refine z_iconst C (v := 0) dL_begin_55 (by decide) ?_
            obtain ⟨x67, h68, m69, n9, g66, hf, e9⟩ := zclE hf
            refine z_callL (kc' := n9) (ks' := 6 * n9) CL (ML_call (xl X) CL.2.2.2 (xD X) (xT X) (xlo X) hi g66) cw_L_174 ys_L_call dL_begin_56 rfl ⟨Nat.le_of_ble_eq_true rfl, Nat.le_of_ble_eq_true rfl⟩ ⟨by show m69 + _ = _; omega, by show 6 * m69 + _ = _; omega⟩ (Nat.le_of_ble_eq_true rfl) (st := []) rfl ?_
            refine z_iconst C (v := 3) dL_begin_59 (by decide) ?_
            refine z_icmp_ne (tgt := 76) C dL_begin_60 (by decide) hf (fun hf => ?_) (fun hf => ?_)
            · exact kJ51 _ _ hf
            · refine z_aload_n C dL_begin_63 0 rfl rfl ?_
              obtain ⟨x71, h72, g70, hf⟩ := zbind2 hf
              refine z_callV C (MX6_errorPosition (xl X) (xD X) (xT X) (xlo X) false hi g70) (OX6_errorPosition g70) rfl cw_L_236 yv_X6_errorPosition dL_begin_64 rfl (by decide) ⟨Nat.zero_add _, Nat.zero_add _⟩ (Nat.le_of_ble_eq_true rfl) (st := []) rfl ?_
              refine z_bipush C (v := (-9 : Int32)) dL_begin_67 (by decide) ?_
              refine z_icmp_ne (tgt := 76) C dL_begin_69 (by decide) hf (fun hf => ?_) (fun hf => ?_)
              · exact kJ51 _ _ hf
              · refine z_iconst C (v := 1) dL_begin_72 (by decide) ?_
                refine z_goto (tgt := 77) C dL_begin_73 (by decide) ?_
                exact kJ3 _ _ _ hf
theorem ML_begin (l : Launch) (hl9 : l.stackTraces = false) (D : va_G) (T : zT) (lo hi : Nat) {h : zH} {p0 : Nat} {p1 : Int32} {rv : Int32} {rh : zH} {n9 : Nat} (hf : FL_begin T p0 p1 h = some (rv, rh, n9)) : zMW l yL_begin (.code yL_begin cL_begin 3 (some .boolean) :: TW) ({ frames := 10, cells := n9, slots := 6 * n9, locals := 220 } : Room) D T lo [.ref p0, .int p1] hi h (some (.int rv), hi, rh) :=
  z_enterL hl9 (own := RL) (nm := "begin") (lv := [(0, .ref p0), (1, .int p1)]) (by decide +kernel) rfl rfl (Nat.le_of_ble_eq_true rfl) rfl (fun _ _ _ _ _ _ _ _ C => BL_begin C hf)
