theorem mw_44 : (Jvm.Cond.selects "CrossedSheetModel" ({ cls := "CrossedSheetModel", name := "beginsWith", desc := "(IIJ)Z" } : Jvm.MethodName) ({ cls := "CrossedSheetModel", name := "beginsWith", desc := "(IIJ)Z" } : Jvm.MethodName)) ∈ TW := TWm 44 (by decide +kernel) (by decide +kernel)
theorem mw_986 : (Jvm.Cond.fieldLink "CrossedSheetModel" (19 : Nat) "CrossedSheetModel" "trial" "[I") ∈ TW := TWm 986 (by decide +kernel) (by decide +kernel)
theorem mw_997 : (Jvm.Cond.fieldLink "CrossedSheetModel" (44 : Nat) "CrossedSheetModel" "starts" "[I") ∈ TW := TWm 997 (by decide +kernel) (by decide +kernel)
theorem mw_998 : (Jvm.Cond.fieldLink "CrossedSheetModel" (47 : Nat) "CrossedSheetModel" "first" "[I") ∈ TW := TWm 998 (by decide +kernel) (by decide +kernel)
theorem mw_1270 : (Jvm.Cond.methodLink "CrossedSheetModel" (238 : Nat) ({ cls := "CrossedSheetModel", name := "areSigns", desc := "(IJ)Z" } : Jvm.MethodName)) ∈ TW := TWm 1270 (by decide +kernel) (by decide +kernel)
theorem mw_1271 : (Jvm.Cond.static ({ cls := "CrossedSheetModel", name := "areSigns", desc := "(IJ)Z" } : Jvm.MethodName)) ∈ TW := TWm 1271 (by decide +kernel) (by decide +kernel)
theorem mw_1272 : (Jvm.Cond.code ({ cls := "CrossedSheetModel", name := "areSigns", desc := "(IJ)Z" } : Jvm.MethodName) prog_9_method_64_code (7 : Nat) (Option.some Jvm.ClassFile.FieldType.boolean)) ∈ TW := TWm 1272 (by decide +kernel) (by decide +kernel)
theorem mw_1273 : (Jvm.Cond.methodLink "CrossedSheetModel" (234 : Nat) ({ cls := "CrossedSheetModel", name := "power", desc := "(I)J" } : Jvm.MethodName)) ∈ TW := TWm 1273 (by decide +kernel) (by decide +kernel)
theorem mw_1274 : (Jvm.Cond.static ({ cls := "CrossedSheetModel", name := "power", desc := "(I)J" } : Jvm.MethodName)) ∈ TW := TWm 1274 (by decide +kernel) (by decide +kernel)
theorem mw_1275 : (Jvm.Cond.code ({ cls := "CrossedSheetModel", name := "power", desc := "(I)J" } : Jvm.MethodName) prog_9_method_63_code (4 : Nat) (Option.some Jvm.ClassFile.FieldType.long)) ∈ TW := TWm 1275 (by decide +kernel) (by decide +kernel)
theorem mw_1276 : (Jvm.Cond.constantLong "CrossedSheetModel" (232 : Nat) (100 : Int64)) ∈ TW := TWm 1276 (by decide +kernel) (by decide +kernel)
theorem mw_1277 : (Jvm.Cond.methodLink "CrossedSheetModel" (242 : Nat) ({ cls := "CrossedSheetModel", name := "beginsWith", desc := "(IIJ)Z" } : Jvm.MethodName)) ∈ TW := TWm 1277 (by decide +kernel) (by decide +kernel)
theorem mw_1279 : (Jvm.Cond.instanceMethod ({ cls := "CrossedSheetModel", name := "beginsWith", desc := "(IIJ)Z" } : Jvm.MethodName)) ∈ TW := TWm 1279 (by decide +kernel) (by decide +kernel)
theorem mw_1280 : (Jvm.Cond.code ({ cls := "CrossedSheetModel", name := "beginsWith", desc := "(IIJ)Z" } : Jvm.MethodName) prog_9_method_65_code (7 : Nat) (Option.some Jvm.ClassFile.FieldType.boolean)) ∈ TW := TWm 1280 (by decide +kernel) (by decide +kernel)
theorem fl_X7_19 : zF RX7 19 7 6 (.array .int) true := ⟨RX7, TX7, 19, tyX7, rfl, inTX7, by decide, mw_986, by decide +kernel, tyX7_ok, nmX7, rfl⟩
theorem fl_X7_44 : zF RX7 44 7 17 (.array .int) true := ⟨RX7, TX7, 19, tyX7, rfl, inTX7, by decide, mw_997, by decide +kernel, tyX7_ok, nmX7, rfl⟩
theorem fl_X7_47 : zF RX7 47 7 18 (.array .int) true := ⟨RX7, TX7, 19, tyX7, rfl, inTX7, by decide, mw_998, by decide +kernel, tyX7_ok, nmX7, rfl⟩
theorem ys_X7_areSigns : yX7_areSigns.cls ≠ "java/lang/invoke/MethodHandle" ∧ yX7_areSigns.cls ≠ "java/lang/invoke/VarHandle" ∧ (parseMethodDescriptor yX7_areSigns.desc).map (fun d => d.parameters.length) = some 2 := by decide +kernel
theorem yv_X7_beginsWith : yX7_beginsWith.cls = RX7 ∧ yX7_beginsWith.cls ≠ "java/lang/invoke/MethodHandle" ∧ yX7_beginsWith.cls ≠ "java/lang/invoke/VarHandle" ∧ (parseMethodDescriptor yX7_beginsWith.desc).map (fun d => d.parameters.length) = some 3 := by decide +kernel
theorem ys_X7_power : yX7_power.cls ≠ "java/lang/invoke/MethodHandle" ∧ yX7_power.cls ≠ "java/lang/invoke/VarHandle" ∧ (parseMethodDescriptor yX7_power.desc).map (fun d => d.parameters.length) = some 1 := by decide +kernel
theorem cw_X7_234 : GoodIn TW (va_wsS RX7 234 yX7_power (.code yX7_power cX7_power 4 (some .long) :: TW)) := zGS mw_1273 mw_1274 mw_54 mw_1275
theorem cw_X7_238 : GoodIn TW (va_wsS RX7 238 yX7_areSigns (.code yX7_areSigns cX7_areSigns 7 (some .boolean) :: TW)) := zGS mw_1270 mw_1271 mw_54 mw_1272
theorem cw_X7_242 : GoodIn TW (wsV RX7 242 RX7 yX7_beginsWith (.code yX7_beginsWith cX7_beginsWith 7 (some .boolean) :: TW)) := zGV mw_1277 mw_1279 mw_44 mw_54 mw_1280
theorem dX7_undo_0 : decode cX7_undo 0 = .ok (.aload_n 0, 1) := by decide +kernel
theorem dX7_undo_1 : decode cX7_undo 1 = .ok (.aload_n 0, 1) := by decide +kernel
theorem dX7_undo_2 : decode cX7_undo 2 = .ok (.getfield 168, 3) := by decide +kernel
theorem dX7_undo_5 : decode cX7_undo 5 = .ok (.ifCond .ne 7, 3) := by decide +kernel
theorem dX7_undo_8 : decode cX7_undo 8 = .ok (.iconst 1, 1) := by decide +kernel
theorem dX7_undo_9 : decode cX7_undo 9 = .ok (.goto 4, 3) := by decide +kernel
theorem dX7_undo_12 : decode cX7_undo 12 = .ok (.iconst 0, 1) := by decide +kernel
theorem dX7_undo_13 : decode cX7_undo 13 = .ok (.invokevirtual 120, 3) := by decide +kernel
theorem dX7_undo_16 : decode cX7_undo 16 = .ok (.ifCond .eq 5, 3) := by decide +kernel
theorem dX7_undo_19 : decode cX7_undo 19 = .ok (.iconst 0, 1) := by decide +kernel
theorem dX7_undo_20 : decode cX7_undo 20 = .ok (.ireturn, 1) := by decide +kernel
theorem dX7_undo_21 : decode cX7_undo 21 = .ok (.aload_n 0, 1) := by decide +kernel
theorem dX7_undo_22 : decode cX7_undo 22 = .ok (.dup, 1) := by decide +kernel
theorem dX7_undo_23 : decode cX7_undo 23 = .ok (.getfield 168, 3) := by decide +kernel
theorem dX7_undo_26 : decode cX7_undo 26 = .ok (.iconst 1, 1) := by decide +kernel
theorem dX7_undo_27 : decode cX7_undo 27 = .ok (.isub, 1) := by decide +kernel
theorem dX7_undo_28 : decode cX7_undo 28 = .ok (.putfield 168, 3) := by decide +kernel
theorem dX7_undo_31 : decode cX7_undo 31 = .ok (.aload_n 0, 1) := by decide +kernel
theorem dX7_undo_32 : decode cX7_undo 32 = .ok (.getfield 25, 3) := by decide +kernel
theorem dX7_undo_35 : decode cX7_undo 35 = .ok (.sipush 739, 3) := by decide +kernel
theorem dX7_undo_38 : decode cX7_undo 38 = .ok (.aload_n 0, 1) := by decide +kernel
theorem dX7_undo_39 : decode cX7_undo 39 = .ok (.getfield 168, 3) := by decide +kernel
theorem dX7_undo_42 : decode cX7_undo 42 = .ok (.imul, 1) := by decide +kernel
theorem dX7_undo_43 : decode cX7_undo 43 = .ok (.aload_n 0, 1) := by decide +kernel
theorem dX7_undo_44 : decode cX7_undo 44 = .ok (.getfield 16, 3) := by decide +kernel
theorem dX7_undo_47 : decode cX7_undo 47 = .ok (.iconst 0, 1) := by decide +kernel
theorem dX7_undo_48 : decode cX7_undo 48 = .ok (.invokestatic 107, 3) := by decide +kernel
theorem dX7_undo_51 : decode cX7_undo 51 = .ok (.aload_n 0, 1) := by decide +kernel
theorem dX7_undo_52 : decode cX7_undo 52 = .ok (.getfield 168, 3) := by decide +kernel
theorem dX7_undo_55 : decode cX7_undo 55 = .ok (.ireturn, 1) := by decide +kernel
def FX7_undo (T : zT) (a0 : Nat) (h : zH) : Option (Int32 × zH) := (zo h a0 7).bind fun _ => zJ (fun (x1 : Int32) (x2 : Nat) => zb2 (FX7_refused T x2 x1 h) fun x5 h6 => if x5 = 0 then ((zgi h6 a0 7 9).bind fun x7 => (zpv h6 a0 7 9 (.int (x7 - 1))).bind fun h8 => (zgr h8 a0 7 8).bind fun x9 => (zgi h8 a0 7 9).bind fun x10 => (zgr h8 a0 7 5).bind fun x11 => (FX7_copyPage T x9 (739 * x10) x11 0 h8).bind fun h13 => (zgi h13 a0 7 9).bind fun x14 => some (x14, h13)) else (some (0, h6))) (fun J3 => (zgi h a0 7 9).bind fun x15 => if x15 = 0 then (J3 1 a0) else (J3 0 a0))
set_option maxHeartbeats 4000000 in
set_option maxRecDepth 100000 in
theorem BX7_undo {X : zX} (C : zC X cX7_undo 1 RX7 "undo" (some .int) 1 24) {al : Bool} {hi : Nat} {h : zH} {a0 : Nat} {r9 : (Int32 × zH)} (hf : FX7_undo (xT X) a0 h = some r9) : zW X 1 (zZ X al (some (.int r9.1), hi, r9.2)) 0 0 al hi h 0 [(0, .ref a0)] [] := by
  unfold FX7_undo at hf
  obtain ⟨_, _, hf⟩ := zbind hf
  refine z_join (P := fun J => ∀ (x1 : Int32) (x2 : Nat), J x1 x2 = some r9 → zW X 1 (zZ X al (some (.int r9.1), hi, r9.2)) 0 0 al hi h 13 [(0, .ref a0)] [.int x1, .ref x2]) hf ?_ ?_
  · intro x1 x2 hf
    obtain ⟨x5, h6, g4, hf⟩ := zbind2 hf
    refine z_callV (kc' := 0) (ks' := 0) C (MX7_refused (xl X) (xD X) (xT X) (xlo X) al hi g4) (OX7_refused g4) rfl cw_X7_120 yv_X7_refused dX7_undo_13 rfl (by decide) ⟨rfl, rfl⟩ (Nat.le_of_ble_eq_true rfl) (st := []) rfl ?_
    refine z_if_eq (tgt := 21) C dX7_undo_16 (by decide) hf (fun hf => ?_) (fun hf => ?_)
    · refine z_aload_n C dX7_undo_21 0 rfl rfl ?_
      refine z_dup C dX7_undo_22 rfl ?_
      refine z_getI C fl_X7_168 dX7_undo_23 hf (fun x7 hf => ?_)
      refine z_iconst C (v := 1) dX7_undo_26 (by decide) ?_
      refine z_isub C dX7_undo_27 ?_
      refine z_put C fl_X7_168 dX7_undo_28 rfl rfl hf (fun h8 hf => ?_)
      refine z_aload_n C dX7_undo_31 0 rfl rfl ?_
      refine z_getR C fl_X7_25 dX7_undo_32 hf (fun x9 hf => ?_)
      refine z_sipush C (v := 739) dX7_undo_35 (by decide) ?_
      refine z_aload_n C dX7_undo_38 0 rfl rfl ?_
      refine z_getI C fl_X7_168 dX7_undo_39 hf (fun x10 hf => ?_)
      refine z_imul C dX7_undo_42 ?_
      refine z_aload_n C dX7_undo_43 0 rfl rfl ?_
      refine z_getR C fl_X7_16 dX7_undo_44 hf (fun x11 hf => ?_)
      refine z_iconst C (v := 0) dX7_undo_47 (by decide) ?_
      obtain ⟨h13, g12, hf⟩ := zbind hf
      refine z_callS (kc' := 0) (ks' := 0) C (MX7_copyPage (xl X) (xD X) (xT X) (xlo X) al hi g12) cw_X7_107 ys_X7_copyPage dX7_undo_48 rfl (by decide) ⟨rfl, rfl⟩ (Nat.le_of_ble_eq_true rfl) (st := []) rfl ?_
      refine z_aload_n C dX7_undo_51 0 rfl rfl ?_
      refine z_getI C fl_X7_168 dX7_undo_52 hf (fun x14 hf => ?_)
      exact z_ireturn C dX7_undo_55 (by cases hf; rfl)
    · refine z_iconst C (v := 0) dX7_undo_19 (by decide) ?_
      exact z_ireturn C dX7_undo_20 (by cases hf; rfl)
  · intro J3 kJ3 hf
    refine z_aload_n C dX7_undo_0 0 rfl rfl ?_
    refine z_aload_n C dX7_undo_1 0 rfl rfl ?_
    refine z_getI C fl_X7_168 dX7_undo_2 hf (fun x15 hf => ?_)
    refine z_if_ne (tgt := 12) C dX7_undo_5 (by decide) hf (fun hf => ?_) (fun hf => ?_)
    · refine z_iconst C (v := 0) dX7_undo_12 (by decide) ?_
      exact kJ3 _ _ hf
    · refine z_iconst C (v := 1) dX7_undo_8 (by decide) ?_
      refine z_goto (tgt := 13) C dX7_undo_9 (by decide) ?_
      exact kJ3 _ _ hf
theorem MX7_undo (l : Launch) (D : va_G) (T : zT) (lo : Nat) (al : Bool) (hi : Nat) {h : zH} {a0 : Nat} {v9 : Int32} {h9 : zH} (hf : FX7_undo T a0 h = some (v9, h9)) : zM l yX7_undo (.code yX7_undo cX7_undo 1 (some .int) :: TW) ({ frames := 1, cells := 0, slots := 0, locals := 24 } : Room) D T lo al [.ref a0] hi h (some (.int v9), hi, h9) :=
  z_enter (own := RX7) (nm := "undo") (lv := [(0, .ref a0)]) (by decide +kernel) rfl rfl (Nat.le_of_ble_eq_true rfl) rfl (fun _ _ _ _ _ _ _ _ C => BX7_undo C hf)
theorem OX7_undo {T : zT} {h : zH} {a0 : Nat} {r9 : (Int32 × zH)} (hf : FX7_undo T a0 h = some r9) : ∃ fs, h a0 = some (.inr (7, fs)) := by
  obtain ⟨_, h1, _⟩ := zbind hf
  exact zo_obj h1
theorem dX7_power_0 : decode cX7_power 0 = .ok (.lconst 1, 1) := by decide +kernel
theorem dX7_power_1 : decode cX7_power 1 = .ok (.lstore_n 1, 1) := by decide +kernel
theorem dX7_power_2 : decode cX7_power 2 = .ok (.iconst 0, 1) := by decide +kernel
theorem dX7_power_3 : decode cX7_power 3 = .ok (.istore_n 3, 1) := by decide +kernel
theorem dX7_power_4 : decode cX7_power 4 = .ok (.iload_n 3, 1) := by decide +kernel
theorem dX7_power_5 : decode cX7_power 5 = .ok (.iload_n 0, 1) := by decide +kernel
theorem dX7_power_6 : decode cX7_power 6 = .ok (.if_icmp .ge 15, 3) := by decide +kernel
theorem dX7_power_9 : decode cX7_power 9 = .ok (.lload_n 1, 1) := by decide +kernel
theorem dX7_power_10 : decode cX7_power 10 = .ok (.ldc2_w 232, 3) := by decide +kernel
theorem dX7_power_13 : decode cX7_power 13 = .ok (.lmul, 1) := by decide +kernel
theorem dX7_power_14 : decode cX7_power 14 = .ok (.lstore_n 1, 1) := by decide +kernel
theorem dX7_power_15 : decode cX7_power 15 = .ok (.iinc 3 1, 3) := by decide +kernel
theorem dX7_power_18 : decode cX7_power 18 = .ok (.goto (-14), 3) := by decide +kernel
theorem dX7_power_21 : decode cX7_power 21 = .ok (.lload_n 1, 1) := by decide +kernel
theorem dX7_power_22 : decode cX7_power 22 = .ok (.lreturn, 1) := by decide +kernel
def LX7_power_4 {ρ : Type} (T : zT) (h4 : zH) (x1 : Int32) (K0 : Int64 → Option ρ) : Nat → Int64 → Int32 → Option ρ
  | 0, _, _ => none
  | k + 1, x2, x3 => if x1 ≤ x3 then (K0 x2) else (LX7_power_4 T h4 x1 K0 k (x2 * (100 : Int64)) (x3 + 1))
set_option maxHeartbeats 4000000 in
set_option maxRecDepth 100000 in
theorem LX7_power_4_ok {X : zX} (C : zC X cX7_power 4 RX7 "power" (some .long) 0 0) {Z : State → Prop} {al : Bool} {hi : Nat} {ρ : Type} {r9 : ρ} {h4 : zH} {x1 : Int32} {K0 : Int64 → Option ρ} (hK0 : ∀ (y1 : Int64), K0 y1 = some r9 → zW X 4 Z 0 0 al hi h4 21 [(1, .long y1)] []) : ∀ (k : Nat) (x2 : Int64) (x3 : Int32), LX7_power_4 (xT X) h4 x1 K0 k x2 x3 = some r9 → zW X 4 Z 0 0 al hi h4 4 [(0, .int x1), (1, .long x2), (3, .int x3)] [] := by
  intro k
  induction k with
  | zero =>
    intro x2 x3 hf
    have hf : none = some r9 := hf
    cases hf
  | succ k ih =>
    intro x2 x3 hf
    rw [LX7_power_4.eq_2] at hf
    refine z_iload_n C dX7_power_4 2 rfl rfl ?_
    refine z_iload_n C dX7_power_5 0 rfl rfl ?_
    refine z_icmp_ge (tgt := 21) C dX7_power_6 (by decide) hf (fun hf => ?_) (fun hf => ?_)
    · refine z_sub [1] rfl ?_
      exact hK0 _ hf
    · refine z_lload_n C dX7_power_9 1 rfl rfl ?_
      refine z_ldc2 C (v := 100) mw_1276 dX7_power_10 ?_
      refine z_lmul C dX7_power_13 ?_
      refine z_lstore_n C dX7_power_14 rfl (by decide) (lv' := [(1, .long (x2 * (100 : Int64))), (0, .int x1), (3, .int x3)]) rfl ?_
      refine z_iinc C dX7_power_15 (k := 2) (d := 1) rfl (by decide) (by decide) (lv' := [(3, .int (x3 + 1)), (1, .long (x2 * (100 : Int64))), (0, .int x1)]) rfl ?_
      refine z_goto (tgt := 4) C dX7_power_18 (by decide) ?_
      refine z_sub [2, 1, 0] rfl ?_
      exact ih _ _ hf
def FX7_power (T : zT) (p0 : Int32) (h : zH) : Option Int64 := LX7_power_4 T h p0 (fun (x5 : Int64) => some x5) FUEL (1 : Int64) 0
set_option maxHeartbeats 4000000 in
set_option maxRecDepth 100000 in
theorem BX7_power {X : zX} (C : zC X cX7_power 4 RX7 "power" (some .long) 0 0) {al : Bool} {hi : Nat} {h : zH} {p0 : Int32} {r9 : Int64} (hf : FX7_power (xT X) p0 h = some r9) : zW X 4 (zZ X al (some (.long r9), hi, h)) 0 0 al hi h 0 [(0, .int p0)] [] := by
  unfold FX7_power at hf
  refine z_lconst C (v := 1) dX7_power_0 (by decide) ?_
  refine z_lstore_n C dX7_power_1 rfl (by decide) (lv' := [(1, .long (1 : Int64)), (0, .int p0)]) rfl ?_
  refine z_iconst C (v := 0) dX7_power_2 (by decide) ?_
  refine z_istore_n C dX7_power_3 rfl (by decide) (lv' := [(3, .int 0), (1, .long (1 : Int64)), (0, .int p0)]) rfl ?_
  refine z_sub [2, 1, 0] rfl ?_
  refine LX7_power_4_ok C ?_ FUEL _ _ hf
  · intro x5 hf
    refine z_lload_n C dX7_power_21 0 rfl rfl ?_
    exact z_lreturn C dX7_power_22 (by cases hf; rfl)
theorem MX7_power (l : Launch) (D : va_G) (T : zT) (lo : Nat) (al : Bool) (hi : Nat) {h : zH} {p0 : Int32} {v9 : Int64} (hf : FX7_power T p0 h = some v9) : zM l yX7_power (.code yX7_power cX7_power 4 (some .long) :: TW) ({ frames := 0, cells := 0, slots := 0, locals := 0 } : Room) D T lo al [.int p0] hi h (some (.long v9), hi, h) :=
  z_enter (own := RX7) (nm := "power") (lv := [(0, .int p0)]) (by decide +kernel) rfl rfl (Nat.le_of_ble_eq_true rfl) rfl (fun _ _ _ _ _ _ _ _ C => BX7_power C hf)
theorem dX7_areSigns_0 : decode cX7_areSigns 0 = .ok (.iload_n 0, 1) := by decide +kernel
theorem dX7_areSigns_1 : decode cX7_areSigns 1 = .ok (.i2l, 1) := by decide +kernel
theorem dX7_areSigns_2 : decode cX7_areSigns 2 = .ok (.lconst 1, 1) := by decide +kernel
theorem dX7_areSigns_3 : decode cX7_areSigns 3 = .ok (.ldc2_w 204, 3) := by decide +kernel
theorem dX7_areSigns_6 : decode cX7_areSigns 6 = .ok (.invokestatic 58, 3) := by decide +kernel
theorem dX7_areSigns_9 : decode cX7_areSigns 9 = .ok (.ifCond .eq 21, 3) := by decide +kernel
theorem dX7_areSigns_12 : decode cX7_areSigns 12 = .ok (.lload_n 1, 1) := by decide +kernel
theorem dX7_areSigns_13 : decode cX7_areSigns 13 = .ok (.lconst 0, 1) := by decide +kernel
theorem dX7_areSigns_14 : decode cX7_areSigns 14 = .ok (.iload_n 0, 1) := by decide +kernel
theorem dX7_areSigns_15 : decode cX7_areSigns 15 = .ok (.invokestatic 234, 3) := by decide +kernel
theorem dX7_areSigns_18 : decode cX7_areSigns 18 = .ok (.lconst 1, 1) := by decide +kernel
theorem dX7_areSigns_19 : decode cX7_areSigns 19 = .ok (.lsub, 1) := by decide +kernel
theorem dX7_areSigns_20 : decode cX7_areSigns 20 = .ok (.invokestatic 58, 3) := by decide +kernel
theorem dX7_areSigns_23 : decode cX7_areSigns 23 = .ok (.ifCond .eq 7, 3) := by decide +kernel
theorem dX7_areSigns_26 : decode cX7_areSigns 26 = .ok (.iconst 1, 1) := by decide +kernel
theorem dX7_areSigns_27 : decode cX7_areSigns 27 = .ok (.goto 4, 3) := by decide +kernel
theorem dX7_areSigns_30 : decode cX7_areSigns 30 = .ok (.iconst 0, 1) := by decide +kernel
theorem dX7_areSigns_31 : decode cX7_areSigns 31 = .ok (.istore_n 3, 1) := by decide +kernel
theorem dX7_areSigns_32 : decode cX7_areSigns 32 = .ok (.lload_n 1, 1) := by decide +kernel
theorem dX7_areSigns_33 : decode cX7_areSigns 33 = .ok (.lstore 4, 2) := by decide +kernel
theorem dX7_areSigns_35 : decode cX7_areSigns 35 = .ok (.iconst 0, 1) := by decide +kernel
theorem dX7_areSigns_36 : decode cX7_areSigns 36 = .ok (.istore 6, 2) := by decide +kernel
theorem dX7_areSigns_38 : decode cX7_areSigns 38 = .ok (.iload 6, 2) := by decide +kernel
theorem dX7_areSigns_40 : decode cX7_areSigns 40 = .ok (.iload_n 0, 1) := by decide +kernel
theorem dX7_areSigns_41 : decode cX7_areSigns 41 = .ok (.if_icmp .ge 40, 3) := by decide +kernel
theorem dX7_areSigns_44 : decode cX7_areSigns 44 = .ok (.iload_n 3, 1) := by decide +kernel
theorem dX7_areSigns_45 : decode cX7_areSigns 45 = .ok (.ifCond .eq 36, 3) := by decide +kernel
theorem dX7_areSigns_48 : decode cX7_areSigns 48 = .ok (.lload 4, 2) := by decide +kernel
theorem dX7_areSigns_50 : decode cX7_areSigns 50 = .ok (.ldc2_w 232, 3) := by decide +kernel
theorem dX7_areSigns_53 : decode cX7_areSigns 53 = .ok (.lrem, 1) := by decide +kernel
theorem dX7_areSigns_54 : decode cX7_areSigns 54 = .ok (.ldc2_w 200, 3) := by decide +kernel
theorem dX7_areSigns_57 : decode cX7_areSigns 57 = .ok (.lcmp, 1) := by decide +kernel
theorem dX7_areSigns_58 : decode cX7_areSigns 58 = .ok (.ifCond .gt 7, 3) := by decide +kernel
theorem dX7_areSigns_61 : decode cX7_areSigns 61 = .ok (.iconst 1, 1) := by decide +kernel
theorem dX7_areSigns_62 : decode cX7_areSigns 62 = .ok (.goto 4, 3) := by decide +kernel
theorem dX7_areSigns_65 : decode cX7_areSigns 65 = .ok (.iconst 0, 1) := by decide +kernel
theorem dX7_areSigns_66 : decode cX7_areSigns 66 = .ok (.istore_n 3, 1) := by decide +kernel
theorem dX7_areSigns_67 : decode cX7_areSigns 67 = .ok (.lload 4, 2) := by decide +kernel
theorem dX7_areSigns_69 : decode cX7_areSigns 69 = .ok (.ldc2_w 232, 3) := by decide +kernel
theorem dX7_areSigns_72 : decode cX7_areSigns 72 = .ok (.ldiv, 1) := by decide +kernel
theorem dX7_areSigns_73 : decode cX7_areSigns 73 = .ok (.lstore 4, 2) := by decide +kernel
theorem dX7_areSigns_75 : decode cX7_areSigns 75 = .ok (.iinc 6 1, 3) := by decide +kernel
theorem dX7_areSigns_78 : decode cX7_areSigns 78 = .ok (.goto (-40), 3) := by decide +kernel
theorem dX7_areSigns_81 : decode cX7_areSigns 81 = .ok (.iload_n 3, 1) := by decide +kernel
theorem dX7_areSigns_82 : decode cX7_areSigns 82 = .ok (.ireturn, 1) := by decide +kernel
def LX7_areSigns_38 {ρ : Type} (T : zT) (h7 : zH) (x3 : Int32) (K0 : Int32 → Option ρ) : Nat → Int32 → Int64 → Int32 → Option ρ
  | 0, _, _, _ => none
  | k + 1, x4, x5, x6 => if x3 ≤ x6 then (K0 x4) else (if x4 = 0 then (K0 x4) else (zJ (fun (x8 : Int32) => (zdivL x5 (100 : Int64)).bind fun x10 => LX7_areSigns_38 T h7 x3 K0 k x8 x10 (x6 + 1)) (fun J9 => (zremL x5 (100 : Int64)).bind fun x11 => if 0 < (lg_cmp x11 (26 : Int64)) then (J9 0) else (J9 1))))
set_option maxHeartbeats 4000000 in
set_option maxRecDepth 100000 in
theorem LX7_areSigns_38_ok {X : zX} (C : zC X cX7_areSigns 7 RX7 "areSigns" (some .boolean) 1 25) {Z : State → Prop} {al : Bool} {hi : Nat} {ρ : Type} {r9 : ρ} {h7 : zH} {x3 : Int32} {K0 : Int32 → Option ρ} (hK0 : ∀ (y3 : Int32), K0 y3 = some r9 → zW X 7 Z 0 0 al hi h7 81 [(3, .int y3)] []) : ∀ (k : Nat) (x4 : Int32) (x5 : Int64) (x6 : Int32), LX7_areSigns_38 (xT X) h7 x3 K0 k x4 x5 x6 = some r9 → zW X 7 Z 0 0 al hi h7 38 [(0, .int x3), (3, .int x4), (4, .long x5), (6, .int x6)] [] := by
  intro k
  induction k with
  | zero =>
    intro x4 x5 x6 hf
    have hf : none = some r9 := hf
    cases hf
  | succ k ih =>
    intro x4 x5 x6 hf
    rw [LX7_areSigns_38.eq_2] at hf
    refine z_iload C dX7_areSigns_38 3 rfl ?_
    refine z_iload_n C dX7_areSigns_40 0 rfl rfl ?_
    refine z_icmp_ge (tgt := 81) C dX7_areSigns_41 (by decide) hf (fun hf => ?_) (fun hf => ?_)
    · refine z_sub [1] rfl ?_
      exact hK0 _ hf
    · refine z_iload_n C dX7_areSigns_44 1 rfl rfl ?_
      refine z_if_eq (tgt := 81) C dX7_areSigns_45 (by decide) hf (fun hf => ?_) (fun hf => ?_)
      · refine z_sub [1] rfl ?_
        exact hK0 _ hf
      · refine z_join (P := fun J => ∀ (x8 : Int32), J x8 = some r9 → zW X 7 Z 0 0 al hi h7 66 [(0, .int x3), (4, .long x5), (6, .int x6)] [.int x8]) hf ?_ ?_
        · intro x8 hf
          refine z_istore_n C dX7_areSigns_66 rfl (by decide) (lv' := [(3, .int x8), (0, .int x3), (4, .long x5), (6, .int x6)]) rfl ?_
          refine z_lload C dX7_areSigns_67 2 rfl ?_
          refine z_ldc2 C (v := 100) mw_1276 dX7_areSigns_69 ?_
          refine z_ldiv C dX7_areSigns_72 hf (fun x10 _ hf => ?_)
          refine z_lstore C dX7_areSigns_73 (by decide) (lv' := [(4, .long x10), (3, .int x8), (0, .int x3), (6, .int x6)]) rfl ?_
          refine z_iinc C dX7_areSigns_75 (k := 3) (d := 1) rfl (by decide) (by decide) (lv' := [(6, .int (x6 + 1)), (4, .long x10), (3, .int x8), (0, .int x3)]) rfl ?_
          refine z_goto (tgt := 38) C dX7_areSigns_78 (by decide) ?_
          refine z_sub [3, 2, 1, 0] rfl ?_
          exact ih _ _ _ hf
        · intro J9 kJ9 hf
          refine z_lload C dX7_areSigns_48 2 rfl ?_
          refine z_ldc2 C (v := 100) mw_1276 dX7_areSigns_50 ?_
          refine z_lrem C dX7_areSigns_53 hf (fun x11 _ hf => ?_)
          refine z_ldc2 C (v := 26) mw_1211 dX7_areSigns_54 ?_
          refine z_lcmp C dX7_areSigns_57 ?_
          refine z_if_gt (tgt := 65) C dX7_areSigns_58 (by decide) hf (fun hf => ?_) (fun hf => ?_)
          · refine z_iconst C (v := 0) dX7_areSigns_65 (by decide) ?_
            refine z_sub [0, 2, 3] rfl ?_
            exact kJ9 _ hf
          · refine z_iconst C (v := 1) dX7_areSigns_61 (by decide) ?_
            refine z_goto (tgt := 66) C dX7_areSigns_62 (by decide) ?_
            refine z_sub [0, 2, 3] rfl ?_
            exact kJ9 _ hf
def FX7_areSigns (T : zT) (p0 : Int32) (p1 : Int64) (h : zH) : Option Int32 := zJ (fun (x1 : Int32) => LX7_areSigns_38 T h p0 (fun (x12 : Int32) => if x12 = 0 ∨ x12 = 1 then some x12 else none) FUEL x1 p1 0) (fun J2 => zJ (fun (u9 : Unit) => J2 0) (fun J13 => (FX7_in T p0.toInt64 (1 : Int64) (8 : Int64) h).bind fun x15 => if x15 = 0 then (J13 ()) else ((FX7_power T p0 h).bind fun x17 => (FX7_in T p1 (0 : Int64) (x17 - (1 : Int64)) h).bind fun x19 => if x19 = 0 then (J13 ()) else (J2 1))))
set_option maxHeartbeats 4000000 in
set_option maxRecDepth 100000 in
theorem BX7_areSigns {X : zX} (C : zC X cX7_areSigns 7 RX7 "areSigns" (some .boolean) 1 25) {al : Bool} {hi : Nat} {h : zH} {p0 : Int32} {p1 : Int64} {r9 : Int32} (hf : FX7_areSigns (xT X) p0 p1 h = some r9) : zW X 7 (zZ X al (some (.int r9), hi, h)) 0 0 al hi h 0 [(0, .int p0), (1, .long p1)] [] := by
  unfold FX7_areSigns at hf
  refine z_join (P := fun J => ∀ (x1 : Int32), J x1 = some r9 → zW X 7 (zZ X al (some (.int r9), hi, h)) 0 0 al hi h 31 [(0, .int p0), (1, .long p1)] [.int x1]) hf ?_ ?_
  · intro x1 hf
    refine z_istore_n C dX7_areSigns_31 rfl (by decide) (lv' := [(3, .int x1), (0, .int p0), (1, .long p1)]) rfl ?_
    refine z_lload_n C dX7_areSigns_32 2 rfl rfl ?_
    refine z_lstore C dX7_areSigns_33 (by decide) (lv' := [(4, .long p1), (3, .int x1), (0, .int p0), (1, .long p1)]) rfl ?_
    refine z_iconst C (v := 0) dX7_areSigns_35 (by decide) ?_
    refine z_istore C dX7_areSigns_36 (by decide) (lv' := [(6, .int 0), (4, .long p1), (3, .int x1), (0, .int p0), (1, .long p1)]) rfl ?_
    refine z_sub [3, 2, 1, 0] rfl ?_
    refine LX7_areSigns_38_ok C ?_ FUEL _ _ _ hf
    · intro x12 hf
      refine z_iload_n C dX7_areSigns_81 0 rfl rfl ?_
      refine z_ite hf (fun c hf => ?_) (fun c hf => nomatch hf)
      exact z_zreturn C dX7_areSigns_82 c (by cases hf; rfl)
  · intro J2 kJ2 hf
    refine z_join (P := fun J => ∀ (u9 : Unit), J u9 = some r9 → zW X 7 (zZ X al (some (.int r9), hi, h)) 0 0 al hi h 30 [(0, .int p0), (1, .long p1)] []) hf ?_ ?_
    · intro u9 hf
      refine z_iconst C (v := 0) dX7_areSigns_30 (by decide) ?_
      exact kJ2 _ hf
    · intro J13 kJ13 hf
      refine z_iload_n C dX7_areSigns_0 0 rfl rfl ?_
      refine z_i2l C dX7_areSigns_1 ?_
      refine z_lconst C (v := 1) dX7_areSigns_2 (by decide) ?_
      refine z_ldc2 C (v := 8) mw_1213 dX7_areSigns_3 ?_
      obtain ⟨x15, g14, hf⟩ := zbind hf
      refine z_callS (kc' := 0) (ks' := 0) C (MX7_in (xl X) (xD X) (xT X) (xlo X) al hi g14) cw_X7_58 ys_X7_in dX7_areSigns_6 rfl (by decide) ⟨rfl, rfl⟩ (Nat.le_of_ble_eq_true rfl) (st := []) rfl ?_
      refine z_if_eq (tgt := 30) C dX7_areSigns_9 (by decide) hf (fun hf => ?_) (fun hf => ?_)
      · exact kJ13 _ hf
      · refine z_lload_n C dX7_areSigns_12 1 rfl rfl ?_
        refine z_lconst C (v := 0) dX7_areSigns_13 (by decide) ?_
        refine z_iload_n C dX7_areSigns_14 0 rfl rfl ?_
        obtain ⟨x17, g16, hf⟩ := zbind hf
        refine z_callS (kc' := 0) (ks' := 0) C (MX7_power (xl X) (xD X) (xT X) (xlo X) al hi g16) cw_X7_234 ys_X7_power dX7_areSigns_15 rfl (by decide) ⟨rfl, rfl⟩ (Nat.le_of_ble_eq_true rfl) (st := [.long (0 : Int64), .long p1]) rfl ?_
        refine z_lconst C (v := 1) dX7_areSigns_18 (by decide) ?_
        refine z_lsub C dX7_areSigns_19 ?_
        obtain ⟨x19, g18, hf⟩ := zbind hf
        refine z_callS (kc' := 0) (ks' := 0) C (MX7_in (xl X) (xD X) (xT X) (xlo X) al hi g18) cw_X7_58 ys_X7_in dX7_areSigns_20 rfl (by decide) ⟨rfl, rfl⟩ (Nat.le_of_ble_eq_true rfl) (st := []) rfl ?_
        refine z_if_eq (tgt := 30) C dX7_areSigns_23 (by decide) hf (fun hf => ?_) (fun hf => ?_)
        · exact kJ13 _ hf
        · refine z_iconst C (v := 1) dX7_areSigns_26 (by decide) ?_
          refine z_goto (tgt := 31) C dX7_areSigns_27 (by decide) ?_
          exact kJ2 _ hf
theorem MX7_areSigns (l : Launch) (D : va_G) (T : zT) (lo : Nat) (al : Bool) (hi : Nat) {h : zH} {p0 : Int32} {p1 : Int64} {v9 : Int32} (hf : FX7_areSigns T p0 p1 h = some v9) : zM l yX7_areSigns (.code yX7_areSigns cX7_areSigns 7 (some .boolean) :: TW) ({ frames := 1, cells := 0, slots := 0, locals := 25 } : Room) D T lo al [.int p0, .long p1] hi h (some (.int v9), hi, h) :=
  z_enter (own := RX7) (nm := "areSigns") (lv := [(0, .int p0), (1, .long p1)]) (by decide +kernel) rfl rfl (Nat.le_of_ble_eq_true rfl) rfl (fun _ _ _ _ _ _ _ _ C => BX7_areSigns C hf)
theorem dX7_beginsWith_0 : decode cX7_beginsWith 0 = .ok (.aload_n 0, 1) := by decide +kernel
theorem dX7_beginsWith_1 : decode cX7_beginsWith 1 = .ok (.getfield 38, 3) := by decide +kernel
theorem dX7_beginsWith_4 : decode cX7_beginsWith 4 = .ok (.iload_n 1, 1) := by decide +kernel
theorem dX7_beginsWith_5 : decode cX7_beginsWith 5 = .ok (.iconst 1, 1) := by decide +kernel
theorem dX7_beginsWith_6 : decode cX7_beginsWith 6 = .ok (.iadd, 1) := by decide +kernel
theorem dX7_beginsWith_7 : decode cX7_beginsWith 7 = .ok (.iaload, 1) := by decide +kernel
theorem dX7_beginsWith_8 : decode cX7_beginsWith 8 = .ok (.aload_n 0, 1) := by decide +kernel
theorem dX7_beginsWith_9 : decode cX7_beginsWith 9 = .ok (.getfield 38, 3) := by decide +kernel
theorem dX7_beginsWith_12 : decode cX7_beginsWith 12 = .ok (.iload_n 1, 1) := by decide +kernel
theorem dX7_beginsWith_13 : decode cX7_beginsWith 13 = .ok (.iaload, 1) := by decide +kernel
theorem dX7_beginsWith_14 : decode cX7_beginsWith 14 = .ok (.isub, 1) := by decide +kernel
theorem dX7_beginsWith_15 : decode cX7_beginsWith 15 = .ok (.iload_n 2, 1) := by decide +kernel
theorem dX7_beginsWith_16 : decode cX7_beginsWith 16 = .ok (.if_icmp .lt 7, 3) := by decide +kernel
theorem dX7_beginsWith_19 : decode cX7_beginsWith 19 = .ok (.iconst 1, 1) := by decide +kernel
theorem dX7_beginsWith_20 : decode cX7_beginsWith 20 = .ok (.goto 4, 3) := by decide +kernel
theorem dX7_beginsWith_23 : decode cX7_beginsWith 23 = .ok (.iconst 0, 1) := by decide +kernel
theorem dX7_beginsWith_24 : decode cX7_beginsWith 24 = .ok (.istore 5, 2) := by decide +kernel
theorem dX7_beginsWith_26 : decode cX7_beginsWith 26 = .ok (.iconst 0, 1) := by decide +kernel
theorem dX7_beginsWith_27 : decode cX7_beginsWith 27 = .ok (.istore 6, 2) := by decide +kernel
theorem dX7_beginsWith_29 : decode cX7_beginsWith 29 = .ok (.iload 6, 2) := by decide +kernel
theorem dX7_beginsWith_31 : decode cX7_beginsWith 31 = .ok (.iload_n 2, 1) := by decide +kernel
theorem dX7_beginsWith_32 : decode cX7_beginsWith 32 = .ok (.if_icmp .ge 55, 3) := by decide +kernel
theorem dX7_beginsWith_35 : decode cX7_beginsWith 35 = .ok (.iload 5, 2) := by decide +kernel
theorem dX7_beginsWith_37 : decode cX7_beginsWith 37 = .ok (.ifCond .eq 50, 3) := by decide +kernel
theorem dX7_beginsWith_40 : decode cX7_beginsWith 40 = .ok (.aload_n 0, 1) := by decide +kernel
theorem dX7_beginsWith_41 : decode cX7_beginsWith 41 = .ok (.getfield 41, 3) := by decide +kernel
theorem dX7_beginsWith_44 : decode cX7_beginsWith 44 = .ok (.aload_n 0, 1) := by decide +kernel
theorem dX7_beginsWith_45 : decode cX7_beginsWith 45 = .ok (.getfield 38, 3) := by decide +kernel
theorem dX7_beginsWith_48 : decode cX7_beginsWith 48 = .ok (.iload_n 1, 1) := by decide +kernel
theorem dX7_beginsWith_49 : decode cX7_beginsWith 49 = .ok (.iaload, 1) := by decide +kernel
theorem dX7_beginsWith_50 : decode cX7_beginsWith 50 = .ok (.iload 6, 2) := by decide +kernel
theorem dX7_beginsWith_52 : decode cX7_beginsWith 52 = .ok (.iadd, 1) := by decide +kernel
theorem dX7_beginsWith_53 : decode cX7_beginsWith 53 = .ok (.iaload, 1) := by decide +kernel
theorem dX7_beginsWith_54 : decode cX7_beginsWith 54 = .ok (.i2l, 1) := by decide +kernel
theorem dX7_beginsWith_55 : decode cX7_beginsWith 55 = .ok (.lload_n 3, 1) := by decide +kernel
theorem dX7_beginsWith_56 : decode cX7_beginsWith 56 = .ok (.iload_n 2, 1) := by decide +kernel
theorem dX7_beginsWith_57 : decode cX7_beginsWith 57 = .ok (.iconst 1, 1) := by decide +kernel
theorem dX7_beginsWith_58 : decode cX7_beginsWith 58 = .ok (.isub, 1) := by decide +kernel
theorem dX7_beginsWith_59 : decode cX7_beginsWith 59 = .ok (.iload 6, 2) := by decide +kernel
theorem dX7_beginsWith_61 : decode cX7_beginsWith 61 = .ok (.isub, 1) := by decide +kernel
theorem dX7_beginsWith_62 : decode cX7_beginsWith 62 = .ok (.invokestatic 234, 3) := by decide +kernel
theorem dX7_beginsWith_65 : decode cX7_beginsWith 65 = .ok (.ldiv, 1) := by decide +kernel
theorem dX7_beginsWith_66 : decode cX7_beginsWith 66 = .ok (.ldc2_w 232, 3) := by decide +kernel
theorem dX7_beginsWith_69 : decode cX7_beginsWith 69 = .ok (.lrem, 1) := by decide +kernel
theorem dX7_beginsWith_70 : decode cX7_beginsWith 70 = .ok (.lcmp, 1) := by decide +kernel
theorem dX7_beginsWith_71 : decode cX7_beginsWith 71 = .ok (.ifCond .ne 7, 3) := by decide +kernel
theorem dX7_beginsWith_74 : decode cX7_beginsWith 74 = .ok (.iconst 1, 1) := by decide +kernel
theorem dX7_beginsWith_75 : decode cX7_beginsWith 75 = .ok (.goto 4, 3) := by decide +kernel
theorem dX7_beginsWith_78 : decode cX7_beginsWith 78 = .ok (.iconst 0, 1) := by decide +kernel
theorem dX7_beginsWith_79 : decode cX7_beginsWith 79 = .ok (.istore 5, 2) := by decide +kernel
theorem dX7_beginsWith_81 : decode cX7_beginsWith 81 = .ok (.iinc 6 1, 3) := by decide +kernel
theorem dX7_beginsWith_84 : decode cX7_beginsWith 84 = .ok (.goto (-55), 3) := by decide +kernel
theorem dX7_beginsWith_87 : decode cX7_beginsWith 87 = .ok (.iload 5, 2) := by decide +kernel
theorem dX7_beginsWith_89 : decode cX7_beginsWith 89 = .ok (.ireturn, 1) := by decide +kernel
def LX7_beginsWith_29 {ρ : Type} (T : zT) (h9 : zH) (x3 : Nat) (x4 : Int32) (x5 : Int32) (x6 : Int64) (K0 : Int32 → Option ρ) : Nat → Int32 → Int32 → Option ρ
  | 0, _, _ => none
  | k + 1, x7, x8 => if x5 ≤ x8 then (K0 x7) else (if x7 = 0 then (K0 x7) else (zJ (fun (x10 : Int32) => LX7_beginsWith_29 T h9 x3 x4 x5 x6 K0 k x10 (x8 + 1)) (fun J11 => (zgr h9 x3 7 14).bind fun x12 => (zgr h9 x3 7 13).bind fun x13 => (zai T h9 x13 x4).bind fun x14 => (zai T h9 x12 (x14 + x8)).bind fun x15 => (FX7_power T ((x5 - 1) - x8) h9).bind fun x17 => (zdivL x6 x17).bind fun x18 => (zremL x18 (100 : Int64)).bind fun x19 => if (lg_cmp x15.toInt64 x19) = 0 then (J11 1) else (J11 0))))
set_option maxHeartbeats 4000000 in
set_option maxRecDepth 100000 in
theorem LX7_beginsWith_29_ok {X : zX} (C : zC X cX7_beginsWith 7 RX7 "beginsWith" (some .boolean) 1 23) {Z : State → Prop} {al : Bool} {hi : Nat} {ρ : Type} {r9 : ρ} {h9 : zH} {x3 : Nat} {x4 : Int32} {x5 : Int32} {x6 : Int64} {K0 : Int32 → Option ρ} (hK0 : ∀ (y5 : Int32), K0 y5 = some r9 → zW X 7 Z 0 0 al hi h9 87 [(5, .int y5)] []) : ∀ (k : Nat) (x7 : Int32) (x8 : Int32), LX7_beginsWith_29 (xT X) h9 x3 x4 x5 x6 K0 k x7 x8 = some r9 → zW X 7 Z 0 0 al hi h9 29 [(0, .ref x3), (1, .int x4), (2, .int x5), (3, .long x6), (5, .int x7), (6, .int x8)] [] := by
  intro k
  induction k with
  | zero =>
    intro x7 x8 hf
    have hf : none = some r9 := hf
    cases hf
  | succ k ih =>
    intro x7 x8 hf
    rw [LX7_beginsWith_29.eq_2] at hf
    refine z_iload C dX7_beginsWith_29 5 rfl ?_
    refine z_iload_n C dX7_beginsWith_31 2 rfl rfl ?_
    refine z_icmp_ge (tgt := 87) C dX7_beginsWith_32 (by decide) hf (fun hf => ?_) (fun hf => ?_)
    · refine z_sub [4] rfl ?_
      exact hK0 _ hf
    · refine z_iload C dX7_beginsWith_35 4 rfl ?_
      refine z_if_eq (tgt := 87) C dX7_beginsWith_37 (by decide) hf (fun hf => ?_) (fun hf => ?_)
      · refine z_sub [4] rfl ?_
        exact hK0 _ hf
      · refine z_join (P := fun J => ∀ (x10 : Int32), J x10 = some r9 → zW X 7 Z 0 0 al hi h9 79 [(0, .ref x3), (1, .int x4), (2, .int x5), (3, .long x6), (6, .int x8)] [.int x10]) hf ?_ ?_
        · intro x10 hf
          refine z_istore C dX7_beginsWith_79 (by decide) (lv' := [(5, .int x10), (0, .ref x3), (1, .int x4), (2, .int x5), (3, .long x6), (6, .int x8)]) rfl ?_
          refine z_iinc C dX7_beginsWith_81 (k := 5) (d := 1) rfl (by decide) (by decide) (lv' := [(6, .int (x8 + 1)), (5, .int x10), (0, .ref x3), (1, .int x4), (2, .int x5), (3, .long x6)]) rfl ?_
          refine z_goto (tgt := 29) C dX7_beginsWith_84 (by decide) ?_
          refine z_sub [2, 3, 4, 5, 1, 0] rfl ?_
          exact ih _ _ hf
        · intro J11 kJ11 hf
          refine z_aload_n C dX7_beginsWith_40 0 rfl rfl ?_
          refine z_getR C fl_X7_41 dX7_beginsWith_41 hf (fun x12 hf => ?_)
          refine z_aload_n C dX7_beginsWith_44 0 rfl rfl ?_
          refine z_getR C fl_X7_38 dX7_beginsWith_45 hf (fun x13 hf => ?_)
          refine z_iload_n C dX7_beginsWith_48 1 rfl rfl ?_
          refine z_iaload C dX7_beginsWith_49 hf (fun x14 hf => ?_)
          refine z_iload C dX7_beginsWith_50 5 rfl ?_
          refine z_iadd C dX7_beginsWith_52 ?_
          refine z_iaload C dX7_beginsWith_53 hf (fun x15 hf => ?_)
          refine z_i2l C dX7_beginsWith_54 ?_
          refine z_lload_n C dX7_beginsWith_55 3 rfl rfl ?_
          refine z_iload_n C dX7_beginsWith_56 2 rfl rfl ?_
          refine z_iconst C (v := 1) dX7_beginsWith_57 (by decide) ?_
          refine z_isub C dX7_beginsWith_58 ?_
          refine z_iload C dX7_beginsWith_59 5 rfl ?_
          refine z_isub C dX7_beginsWith_61 ?_
          obtain ⟨x17, g16, hf⟩ := zbind hf
          refine z_callS (kc' := 0) (ks' := 0) C (MX7_power (xl X) (xD X) (xT X) (xlo X) al hi g16) cw_X7_234 ys_X7_power dX7_beginsWith_62 rfl (by decide) ⟨rfl, rfl⟩ (Nat.le_of_ble_eq_true rfl) (st := [.long x6, .long x15.toInt64]) rfl ?_
          refine z_ldiv C dX7_beginsWith_65 hf (fun x18 _ hf => ?_)
          refine z_ldc2 C (v := 100) mw_1276 dX7_beginsWith_66 ?_
          refine z_lrem C dX7_beginsWith_69 hf (fun x19 _ hf => ?_)
          refine z_lcmp C dX7_beginsWith_70 ?_
          refine z_if_ne (tgt := 78) C dX7_beginsWith_71 (by decide) hf (fun hf => ?_) (fun hf => ?_)
          · refine z_iconst C (v := 0) dX7_beginsWith_78 (by decide) ?_
            refine z_sub [0, 1, 2, 3, 5] rfl ?_
            exact kJ11 _ hf
          · refine z_iconst C (v := 1) dX7_beginsWith_74 (by decide) ?_
            refine z_goto (tgt := 79) C dX7_beginsWith_75 (by decide) ?_
            refine z_sub [0, 1, 2, 3, 5] rfl ?_
            exact kJ11 _ hf
def FX7_beginsWith (T : zT) (a0 : Nat) (p0 : Int32) (p1 : Int32) (p2 : Int64) (h : zH) : Option Int32 := (zo h a0 7).bind fun _ => zJ (fun (x1 : Int32) => LX7_beginsWith_29 T h a0 p0 p1 p2 (fun (x20 : Int32) => if x20 = 0 ∨ x20 = 1 then some x20 else none) FUEL x1 0) (fun J2 => (zgr h a0 7 13).bind fun x21 => (zai T h x21 (p0 + 1)).bind fun x22 => (zgr h a0 7 13).bind fun x23 => (zai T h x23 p0).bind fun x24 => if (x22 - x24) < p1 then (J2 0) else (J2 1))
set_option maxHeartbeats 4000000 in
set_option maxRecDepth 100000 in
theorem BX7_beginsWith {X : zX} (C : zC X cX7_beginsWith 7 RX7 "beginsWith" (some .boolean) 1 23) {al : Bool} {hi : Nat} {h : zH} {a0 : Nat} {p0 : Int32} {p1 : Int32} {p2 : Int64} {r9 : Int32} (hf : FX7_beginsWith (xT X) a0 p0 p1 p2 h = some r9) : zW X 7 (zZ X al (some (.int r9), hi, h)) 0 0 al hi h 0 [(0, .ref a0), (1, .int p0), (2, .int p1), (3, .long p2)] [] := by
  unfold FX7_beginsWith at hf
  obtain ⟨_, _, hf⟩ := zbind hf
  refine z_join (P := fun J => ∀ (x1 : Int32), J x1 = some r9 → zW X 7 (zZ X al (some (.int r9), hi, h)) 0 0 al hi h 24 [(0, .ref a0), (1, .int p0), (2, .int p1), (3, .long p2)] [.int x1]) hf ?_ ?_
  · intro x1 hf
    refine z_istore C dX7_beginsWith_24 (by decide) (lv' := [(5, .int x1), (0, .ref a0), (1, .int p0), (2, .int p1), (3, .long p2)]) rfl ?_
    refine z_iconst C (v := 0) dX7_beginsWith_26 (by decide) ?_
    refine z_istore C dX7_beginsWith_27 (by decide) (lv' := [(6, .int 0), (5, .int x1), (0, .ref a0), (1, .int p0), (2, .int p1), (3, .long p2)]) rfl ?_
    refine z_sub [2, 3, 4, 5, 1, 0] rfl ?_
    refine LX7_beginsWith_29_ok C ?_ FUEL _ _ hf
    · intro x20 hf
      refine z_iload C dX7_beginsWith_87 0 rfl ?_
      refine z_ite hf (fun c hf => ?_) (fun c hf => nomatch hf)
      exact z_zreturn C dX7_beginsWith_89 c (by cases hf; rfl)
  · intro J2 kJ2 hf
    refine z_aload_n C dX7_beginsWith_0 0 rfl rfl ?_
    refine z_getR C fl_X7_38 dX7_beginsWith_1 hf (fun x21 hf => ?_)
    refine z_iload_n C dX7_beginsWith_4 1 rfl rfl ?_
    refine z_iconst C (v := 1) dX7_beginsWith_5 (by decide) ?_
    refine z_iadd C dX7_beginsWith_6 ?_
    refine z_iaload C dX7_beginsWith_7 hf (fun x22 hf => ?_)
    refine z_aload_n C dX7_beginsWith_8 0 rfl rfl ?_
    refine z_getR C fl_X7_38 dX7_beginsWith_9 hf (fun x23 hf => ?_)
    refine z_iload_n C dX7_beginsWith_12 1 rfl rfl ?_
    refine z_iaload C dX7_beginsWith_13 hf (fun x24 hf => ?_)
    refine z_isub C dX7_beginsWith_14 ?_
    refine z_iload_n C dX7_beginsWith_15 2 rfl rfl ?_
    refine z_icmp_lt (tgt := 23) C dX7_beginsWith_16 (by decide) hf (fun hf => ?_) (fun hf => ?_)
    · refine z_iconst C (v := 0) dX7_beginsWith_23 (by decide) ?_
      exact kJ2 _ hf
    · refine z_iconst C (v := 1) dX7_beginsWith_19 (by decide) ?_
      refine z_goto (tgt := 24) C dX7_beginsWith_20 (by decide) ?_
      exact kJ2 _ hf
theorem MX7_beginsWith (l : Launch) (D : va_G) (T : zT) (lo : Nat) (al : Bool) (hi : Nat) {h : zH} {a0 : Nat} {p0 : Int32} {p1 : Int32} {p2 : Int64} {v9 : Int32} (hf : FX7_beginsWith T a0 p0 p1 p2 h = some v9) : zM l yX7_beginsWith (.code yX7_beginsWith cX7_beginsWith 7 (some .boolean) :: TW) ({ frames := 1, cells := 0, slots := 0, locals := 23 } : Room) D T lo al [.ref a0, .int p0, .int p1, .long p2] hi h (some (.int v9), hi, h) :=
  z_enter (own := RX7) (nm := "beginsWith") (lv := [(0, .ref a0), (1, .int p0), (2, .int p1), (3, .long p2)]) (by decide +kernel) rfl rfl (Nat.le_of_ble_eq_true rfl) rfl (fun _ _ _ _ _ _ _ _ C => BX7_beginsWith C hf)
theorem OX7_beginsWith {T : zT} {h : zH} {a0 : Nat} {p0 : Int32} {p1 : Int32} {p2 : Int64} {r9 : Int32} (hf : FX7_beginsWith T a0 p0 p1 p2 h = some r9) : ∃ fs, h a0 = some (.inr (7, fs)) := by
  obtain ⟨_, h1, _⟩ := zbind hf
  exact zo_obj h1
theorem dX7_find_0 : decode cX7_find 0 = .ok (.aload_n 0, 1) := by decide +kernel
theorem dX7_find_1 : decode cX7_find 1 = .ok (.iload_n 1, 1) := by decide +kernel
theorem dX7_find_2 : decode cX7_find 2 = .ok (.invokestatic 182, 3) := by decide +kernel
theorem dX7_find_5 : decode cX7_find 5 = .ok (.ifCond .ne 7, 3) := by decide +kernel
theorem dX7_find_8 : decode cX7_find 8 = .ok (.iconst 1, 1) := by decide +kernel
theorem dX7_find_9 : decode cX7_find 9 = .ok (.goto 16, 3) := by decide +kernel
theorem dX7_find_12 : decode cX7_find 12 = .ok (.iload_n 2, 1) := by decide +kernel
theorem dX7_find_13 : decode cX7_find 13 = .ok (.lload_n 3, 1) := by decide +kernel
theorem dX7_find_14 : decode cX7_find 14 = .ok (.invokestatic 238, 3) := by decide +kernel
theorem dX7_find_17 : decode cX7_find 17 = .ok (.ifCond .ne 7, 3) := by decide +kernel
theorem dX7_find_20 : decode cX7_find 20 = .ok (.iconst 2, 1) := by decide +kernel
theorem dX7_find_21 : decode cX7_find 21 = .ok (.goto 4, 3) := by decide +kernel
theorem dX7_find_24 : decode cX7_find 24 = .ok (.iconst 0, 1) := by decide +kernel
theorem dX7_find_25 : decode cX7_find 25 = .ok (.invokevirtual 120, 3) := by decide +kernel
theorem dX7_find_28 : decode cX7_find 28 = .ok (.ifCond .eq 5, 3) := by decide +kernel
theorem dX7_find_31 : decode cX7_find 31 = .ok (.iconst 0, 1) := by decide +kernel
theorem dX7_find_32 : decode cX7_find 32 = .ok (.ireturn, 1) := by decide +kernel
theorem dX7_find_33 : decode cX7_find 33 = .ok (.aload_n 0, 1) := by decide +kernel
theorem dX7_find_34 : decode cX7_find 34 = .ok (.iload_n 1, 1) := by decide +kernel
theorem dX7_find_35 : decode cX7_find 35 = .ok (.invokevirtual 187, 3) := by decide +kernel
theorem dX7_find_38 : decode cX7_find 38 = .ok (.istore 5, 2) := by decide +kernel
theorem dX7_find_40 : decode cX7_find 40 = .ok (.iconst 0, 1) := by decide +kernel
theorem dX7_find_41 : decode cX7_find 41 = .ok (.istore 6, 2) := by decide +kernel
theorem dX7_find_43 : decode cX7_find 43 = .ok (.iload 6, 2) := by decide +kernel
theorem dX7_find_45 : decode cX7_find 45 = .ok (.iload 5, 2) := by decide +kernel
theorem dX7_find_47 : decode cX7_find 47 = .ok (.if_icmp .ge 23, 3) := by decide +kernel
theorem dX7_find_50 : decode cX7_find 50 = .ok (.aload_n 0, 1) := by decide +kernel
theorem dX7_find_51 : decode cX7_find 51 = .ok (.iload 6, 2) := by decide +kernel
theorem dX7_find_53 : decode cX7_find 53 = .ok (.iload_n 2, 1) := by decide +kernel
theorem dX7_find_54 : decode cX7_find 54 = .ok (.lload_n 3, 1) := by decide +kernel
theorem dX7_find_55 : decode cX7_find 55 = .ok (.invokevirtual 242, 3) := by decide +kernel
theorem dX7_find_58 : decode cX7_find 58 = .ok (.ifCond .eq 6, 3) := by decide +kernel
theorem dX7_find_61 : decode cX7_find 61 = .ok (.iload 6, 2) := by decide +kernel
theorem dX7_find_63 : decode cX7_find 63 = .ok (.ireturn, 1) := by decide +kernel
theorem dX7_find_64 : decode cX7_find 64 = .ok (.iinc 6 1, 3) := by decide +kernel
theorem dX7_find_67 : decode cX7_find 67 = .ok (.goto (-24), 3) := by decide +kernel
theorem dX7_find_70 : decode cX7_find 70 = .ok (.bipush (-9), 2) := by decide +kernel
theorem dX7_find_72 : decode cX7_find 72 = .ok (.ireturn, 1) := by decide +kernel
def LX7_find_43 {ρ : Type} (T : zT) (h15 : zH) (x10 : Nat) (x11 : Int32) (x12 : Int64) (x13 : Int32) (K0 : Int32 → Option ρ) (K1 : Unit → Option ρ) : Nat → Int32 → Option ρ
  | 0, _ => none
  | k + 1, x14 => if x13 ≤ x14 then (K1 ()) else ((FX7_beginsWith T x10 x14 x11 x12 h15).bind fun x17 => if x17 = 0 then (LX7_find_43 T h15 x10 x11 x12 x13 K0 K1 k (x14 + 1)) else (K0 x14))
set_option maxHeartbeats 4000000 in
set_option maxRecDepth 100000 in
theorem LX7_find_43_ok {X : zX} (C : zC X cX7_find 7 RX7 "find" (some .int) 7 170) {Z : State → Prop} {al : Bool} {hi : Nat} {ρ : Type} {r9 : ρ} {h15 : zH} {x10 : Nat} {x11 : Int32} {x12 : Int64} {x13 : Int32} {K0 : Int32 → Option ρ} {K1 : Unit → Option ρ} (hK0 : ∀ (y6 : Int32), K0 y6 = some r9 → zW X 7 Z 0 0 al hi h15 61 [(6, .int y6)] []) (hK1 : ∀ (u9 : Unit), K1 u9 = some r9 → zW X 7 Z 0 0 al hi h15 70 [] []) : ∀ (k : Nat) (x14 : Int32), LX7_find_43 (xT X) h15 x10 x11 x12 x13 K0 K1 k x14 = some r9 → zW X 7 Z 0 0 al hi h15 43 [(0, .ref x10), (2, .int x11), (3, .long x12), (5, .int x13), (6, .int x14)] [] := by
  intro k
  induction k with
  | zero =>
    intro x14 hf
    have hf : none = some r9 := hf
    cases hf
  | succ k ih =>
    intro x14 hf
    rw [LX7_find_43.eq_2] at hf
    refine z_iload C dX7_find_43 4 rfl ?_
    refine z_iload C dX7_find_45 3 rfl ?_
    refine z_icmp_ge (tgt := 70) C dX7_find_47 (by decide) hf (fun hf => ?_) (fun hf => ?_)
    · refine z_sub [] rfl ?_
      exact hK1 _ hf
    · refine z_aload_n C dX7_find_50 0 rfl rfl ?_
      refine z_iload C dX7_find_51 4 rfl ?_
      refine z_iload_n C dX7_find_53 1 rfl rfl ?_
      refine z_lload_n C dX7_find_54 2 rfl rfl ?_
      obtain ⟨x17, g16, hf⟩ := zbind hf
      refine z_callV (kc' := 0) (ks' := 0) C (MX7_beginsWith (xl X) (xD X) (xT X) (xlo X) al hi g16) (OX7_beginsWith g16) rfl cw_X7_242 yv_X7_beginsWith dX7_find_55 rfl (by decide) ⟨rfl, rfl⟩ (Nat.le_of_ble_eq_true rfl) (st := []) rfl ?_
      refine z_if_eq (tgt := 64) C dX7_find_58 (by decide) hf (fun hf => ?_) (fun hf => ?_)
      · refine z_iinc C dX7_find_64 (k := 4) (d := 1) rfl (by decide) (by decide) (lv' := [(6, .int (x14 + 1)), (0, .ref x10), (2, .int x11), (3, .long x12), (5, .int x13)]) rfl ?_
        refine z_goto (tgt := 43) C dX7_find_67 (by decide) ?_
        refine z_sub [1, 2, 3, 4, 0] rfl ?_
        exact ih _ hf
      · refine z_sub [4] rfl ?_
        exact hK0 _ hf
def FX7_find (T : zT) (a0 : Nat) (p0 : Int32) (p1 : Int32) (p2 : Int64) (h : zH) : Option (Int32 × zH) := (zo h a0 7).bind fun _ => zJ (fun (x1 : Int32) (x2 : Nat) => zb2 (FX7_refused T x2 x1 h) fun x5 h6 => if x5 = 0 then (zb2 (FX7_layNow T a0 p0 h6) fun x8 h9 => LX7_find_43 T h9 a0 p1 p2 x8 (fun (x18 : Int32) => some (x18, h9)) (fun (u9 : Unit) => some ((-9 : Int32), h9)) FUEL 0) else (some (0, h6))) (fun J3 => (FX7_isLetter T p0 h).bind fun x20 => if x20 = 0 then (J3 1 a0) else ((FX7_areSigns T p1 p2 h).bind fun x22 => if x22 = 0 then (J3 2 a0) else (J3 0 a0)))
set_option maxHeartbeats 4000000 in
set_option maxRecDepth 100000 in
theorem BX7_find {X : zX} (C : zC X cX7_find 7 RX7 "find" (some .int) 7 170) {al : Bool} {hi : Nat} {h : zH} {a0 : Nat} {p0 : Int32} {p1 : Int32} {p2 : Int64} {r9 : (Int32 × zH)} (hf : FX7_find (xT X) a0 p0 p1 p2 h = some r9) : zW X 7 (zZ X al (some (.int r9.1), hi, r9.2)) 0 0 al hi h 0 [(0, .ref a0), (1, .int p0), (2, .int p1), (3, .long p2)] [] := by
  unfold FX7_find at hf
  obtain ⟨_, _, hf⟩ := zbind hf
  refine z_join (P := fun J => ∀ (x1 : Int32) (x2 : Nat), J x1 x2 = some r9 → zW X 7 (zZ X al (some (.int r9.1), hi, r9.2)) 0 0 al hi h 25 [(0, .ref a0), (1, .int p0), (2, .int p1), (3, .long p2)] [.int x1, .ref x2]) hf ?_ ?_
  · intro x1 x2 hf
    obtain ⟨x5, h6, g4, hf⟩ := zbind2 hf
    refine z_callV (kc' := 0) (ks' := 0) C (MX7_refused (xl X) (xD X) (xT X) (xlo X) al hi g4) (OX7_refused g4) rfl cw_X7_120 yv_X7_refused dX7_find_25 rfl (by decide) ⟨rfl, rfl⟩ (Nat.le_of_ble_eq_true rfl) (st := []) rfl ?_
    refine z_if_eq (tgt := 33) C dX7_find_28 (by decide) hf (fun hf => ?_) (fun hf => ?_)
    · refine z_aload_n C dX7_find_33 0 rfl rfl ?_
      refine z_iload_n C dX7_find_34 1 rfl rfl ?_
      obtain ⟨x8, h9, g7, hf⟩ := zbind2 hf
      refine z_callV (kc' := 0) (ks' := 0) C (MX7_layNow (xl X) (xD X) (xT X) (xlo X) al hi g7) (OX7_layNow g7) rfl cw_X7_187 yv_X7_layNow dX7_find_35 rfl (by decide) ⟨rfl, rfl⟩ (Nat.le_of_ble_eq_true rfl) (st := []) rfl ?_
      refine z_istore C dX7_find_38 (by decide) (lv' := [(5, .int x8), (0, .ref a0), (1, .int p0), (2, .int p1), (3, .long p2)]) rfl ?_
      refine z_iconst C (v := 0) dX7_find_40 (by decide) ?_
      refine z_istore C dX7_find_41 (by decide) (lv' := [(6, .int 0), (5, .int x8), (0, .ref a0), (1, .int p0), (2, .int p1), (3, .long p2)]) rfl ?_
      refine z_sub [2, 4, 5, 1, 0] rfl ?_
      refine LX7_find_43_ok C ?_ ?_ FUEL _ hf
      · intro x18 hf
        refine z_iload C dX7_find_61 0 rfl ?_
        exact z_ireturn C dX7_find_63 (by cases hf; rfl)
      · intro u9 hf
        refine z_bipush C (v := (-9 : Int32)) dX7_find_70 (by decide) ?_
        exact z_ireturn C dX7_find_72 (by cases hf; rfl)
    · refine z_iconst C (v := 0) dX7_find_31 (by decide) ?_
      exact z_ireturn C dX7_find_32 (by cases hf; rfl)
  · intro J3 kJ3 hf
    refine z_aload_n C dX7_find_0 0 rfl rfl ?_
    refine z_iload_n C dX7_find_1 1 rfl rfl ?_
    obtain ⟨x20, g19, hf⟩ := zbind hf
    refine z_callS (kc' := 0) (ks' := 0) C (MX7_isLetter (xl X) (xD X) (xT X) (xlo X) al hi g19) cw_X7_182 ys_X7_isLetter dX7_find_2 rfl (by decide) ⟨rfl, rfl⟩ (Nat.le_of_ble_eq_true rfl) (st := [.ref a0]) rfl ?_
    refine z_if_ne (tgt := 12) C dX7_find_5 (by decide) hf (fun hf => ?_) (fun hf => ?_)
    · refine z_iload_n C dX7_find_12 2 rfl rfl ?_
      refine z_lload_n C dX7_find_13 3 rfl rfl ?_
      obtain ⟨x22, g21, hf⟩ := zbind hf
      refine z_callS (kc' := 0) (ks' := 0) C (MX7_areSigns (xl X) (xD X) (xT X) (xlo X) al hi g21) cw_X7_238 ys_X7_areSigns dX7_find_14 rfl (by decide) ⟨rfl, rfl⟩ (Nat.le_of_ble_eq_true rfl) (st := [.ref a0]) rfl ?_
      refine z_if_ne (tgt := 24) C dX7_find_17 (by decide) hf (fun hf => ?_) (fun hf => ?_)
      · refine z_iconst C (v := 0) dX7_find_24 (by decide) ?_
        exact kJ3 _ _ hf
      · refine z_iconst C (v := 2) dX7_find_20 (by decide) ?_
        refine z_goto (tgt := 25) C dX7_find_21 (by decide) ?_
        exact kJ3 _ _ hf
    · refine z_iconst C (v := 1) dX7_find_8 (by decide) ?_
      refine z_goto (tgt := 25) C dX7_find_9 (by decide) ?_
      exact kJ3 _ _ hf
theorem MX7_find (l : Launch) (D : va_G) (T : zT) (lo : Nat) (al : Bool) (hi : Nat) {h : zH} {a0 : Nat} {p0 : Int32} {p1 : Int32} {p2 : Int64} {v9 : Int32} {h9 : zH} (hf : FX7_find T a0 p0 p1 p2 h = some (v9, h9)) : zM l yX7_find (.code yX7_find cX7_find 7 (some .int) :: TW) ({ frames := 7, cells := 0, slots := 0, locals := 170 } : Room) D T lo al [.ref a0, .int p0, .int p1, .long p2] hi h (some (.int v9), hi, h9) :=
  z_enter (own := RX7) (nm := "find") (lv := [(0, .ref a0), (1, .int p0), (2, .int p1), (3, .long p2)]) (by decide +kernel) rfl rfl (Nat.le_of_ble_eq_true rfl) rfl (fun _ _ _ _ _ _ _ _ C => BX7_find C hf)
theorem OX7_find {T : zT} {h : zH} {a0 : Nat} {p0 : Int32} {p1 : Int32} {p2 : Int64} {r9 : (Int32 × zH)} (hf : FX7_find T a0 p0 p1 p2 h = some r9) : ∃ fs, h a0 = some (.inr (7, fs)) := by
  obtain ⟨_, h1, _⟩ := zbind hf
  exact zo_obj h1
theorem dX7_shared_0 : decode cX7_shared 0 = .ok (.aload_n 0, 1) := by decide +kernel
theorem dX7_shared_1 : decode cX7_shared 1 = .ok (.iconst 0, 1) := by decide +kernel
theorem dX7_shared_2 : decode cX7_shared 2 = .ok (.putfield 54, 3) := by decide +kernel
theorem dX7_shared_5 : decode cX7_shared 5 = .ok (.aload_n 0, 1) := by decide +kernel
theorem dX7_shared_6 : decode cX7_shared 6 = .ok (.iconst 0, 1) := by decide +kernel
theorem dX7_shared_7 : decode cX7_shared 7 = .ok (.invokevirtual 187, 3) := by decide +kernel
theorem dX7_shared_10 : decode cX7_shared 10 = .ok (.istore_n 1, 1) := by decide +kernel
theorem dX7_shared_11 : decode cX7_shared 11 = .ok (.iconst 0, 1) := by decide +kernel
theorem dX7_shared_12 : decode cX7_shared 12 = .ok (.istore_n 2, 1) := by decide +kernel
theorem dX7_shared_13 : decode cX7_shared 13 = .ok (.iload_n 2, 1) := by decide +kernel
theorem dX7_shared_14 : decode cX7_shared 14 = .ok (.iload_n 1, 1) := by decide +kernel
theorem dX7_shared_15 : decode cX7_shared 15 = .ok (.if_icmp .gt 21, 3) := by decide +kernel
theorem dX7_shared_18 : decode cX7_shared 18 = .ok (.aload_n 0, 1) := by decide +kernel
theorem dX7_shared_19 : decode cX7_shared 19 = .ok (.getfield 44, 3) := by decide +kernel
theorem dX7_shared_22 : decode cX7_shared 22 = .ok (.iload_n 2, 1) := by decide +kernel
theorem dX7_shared_23 : decode cX7_shared 23 = .ok (.aload_n 0, 1) := by decide +kernel
theorem dX7_shared_24 : decode cX7_shared 24 = .ok (.getfield 38, 3) := by decide +kernel
theorem dX7_shared_27 : decode cX7_shared 27 = .ok (.iload_n 2, 1) := by decide +kernel
theorem dX7_shared_28 : decode cX7_shared 28 = .ok (.iaload, 1) := by decide +kernel
theorem dX7_shared_29 : decode cX7_shared 29 = .ok (.iastore, 1) := by decide +kernel
theorem dX7_shared_30 : decode cX7_shared 30 = .ok (.iinc 2 1, 3) := by decide +kernel
theorem dX7_shared_33 : decode cX7_shared 33 = .ok (.goto (-20), 3) := by decide +kernel
theorem dX7_shared_36 : decode cX7_shared 36 = .ok (.iconst 0, 1) := by decide +kernel
theorem dX7_shared_37 : decode cX7_shared 37 = .ok (.istore_n 2, 1) := by decide +kernel
theorem dX7_shared_38 : decode cX7_shared 38 = .ok (.iload_n 2, 1) := by decide +kernel
theorem dX7_shared_39 : decode cX7_shared 39 = .ok (.aload_n 0, 1) := by decide +kernel
theorem dX7_shared_40 : decode cX7_shared 40 = .ok (.getfield 94, 3) := by decide +kernel
theorem dX7_shared_43 : decode cX7_shared 43 = .ok (.if_icmp .ge 21, 3) := by decide +kernel
theorem dX7_shared_46 : decode cX7_shared 46 = .ok (.aload_n 0, 1) := by decide +kernel
theorem dX7_shared_47 : decode cX7_shared 47 = .ok (.getfield 47, 3) := by decide +kernel
theorem dX7_shared_50 : decode cX7_shared 50 = .ok (.iload_n 2, 1) := by decide +kernel
theorem dX7_shared_51 : decode cX7_shared 51 = .ok (.aload_n 0, 1) := by decide +kernel
theorem dX7_shared_52 : decode cX7_shared 52 = .ok (.getfield 41, 3) := by decide +kernel
theorem dX7_shared_55 : decode cX7_shared 55 = .ok (.iload_n 2, 1) := by decide +kernel
theorem dX7_shared_56 : decode cX7_shared 56 = .ok (.iaload, 1) := by decide +kernel
theorem dX7_shared_57 : decode cX7_shared 57 = .ok (.iastore, 1) := by decide +kernel
theorem dX7_shared_58 : decode cX7_shared 58 = .ok (.iinc 2 1, 3) := by decide +kernel
theorem dX7_shared_61 : decode cX7_shared 61 = .ok (.goto (-23), 3) := by decide +kernel
theorem dX7_shared_64 : decode cX7_shared 64 = .ok (.aload_n 0, 1) := by decide +kernel
theorem dX7_shared_65 : decode cX7_shared 65 = .ok (.iconst 1, 1) := by decide +kernel
theorem dX7_shared_66 : decode cX7_shared 66 = .ok (.invokevirtual 187, 3) := by decide +kernel
theorem dX7_shared_69 : decode cX7_shared 69 = .ok (.pop, 1) := by decide +kernel
theorem dX7_shared_70 : decode cX7_shared 70 = .ok (.iconst 0, 1) := by decide +kernel
theorem dX7_shared_71 : decode cX7_shared 71 = .ok (.istore_n 2, 1) := by decide +kernel
theorem dX7_shared_72 : decode cX7_shared 72 = .ok (.iconst 0, 1) := by decide +kernel
theorem dX7_shared_73 : decode cX7_shared 73 = .ok (.istore_n 3, 1) := by decide +kernel
theorem dX7_shared_74 : decode cX7_shared 74 = .ok (.iload_n 3, 1) := by decide +kernel
theorem dX7_shared_75 : decode cX7_shared 75 = .ok (.iload_n 1, 1) := by decide +kernel
theorem dX7_shared_76 : decode cX7_shared 76 = .ok (.if_icmp .ge 163, 3) := by decide +kernel
theorem dX7_shared_79 : decode cX7_shared 79 = .ok (.iconst 0, 1) := by decide +kernel
theorem dX7_shared_80 : decode cX7_shared 80 = .ok (.istore 4, 2) := by decide +kernel
theorem dX7_shared_82 : decode cX7_shared 82 = .ok (.iconst 0, 1) := by decide +kernel
theorem dX7_shared_83 : decode cX7_shared 83 = .ok (.istore 5, 2) := by decide +kernel
theorem dX7_shared_85 : decode cX7_shared 85 = .ok (.iload 5, 2) := by decide +kernel
theorem dX7_shared_87 : decode cX7_shared 87 = .ok (.aload_n 0, 1) := by decide +kernel
theorem dX7_shared_88 : decode cX7_shared 88 = .ok (.getfield 91, 3) := by decide +kernel
theorem dX7_shared_91 : decode cX7_shared 91 = .ok (.if_icmp .ge 129, 3) := by decide +kernel
theorem dX7_shared_94 : decode cX7_shared 94 = .ok (.iload 4, 2) := by decide +kernel
theorem dX7_shared_96 : decode cX7_shared 96 = .ok (.ifCond .ne 124, 3) := by decide +kernel
theorem dX7_shared_99 : decode cX7_shared 99 = .ok (.aload_n 0, 1) := by decide +kernel
theorem dX7_shared_100 : decode cX7_shared 100 = .ok (.getfield 38, 3) := by decide +kernel
theorem dX7_shared_103 : decode cX7_shared 103 = .ok (.iload 5, 2) := by decide +kernel
theorem dX7_shared_105 : decode cX7_shared 105 = .ok (.iconst 1, 1) := by decide +kernel
theorem dX7_shared_106 : decode cX7_shared 106 = .ok (.iadd, 1) := by decide +kernel
theorem dX7_shared_107 : decode cX7_shared 107 = .ok (.iaload, 1) := by decide +kernel
theorem dX7_shared_108 : decode cX7_shared 108 = .ok (.aload_n 0, 1) := by decide +kernel
theorem dX7_shared_109 : decode cX7_shared 109 = .ok (.getfield 38, 3) := by decide +kernel
theorem dX7_shared_112 : decode cX7_shared 112 = .ok (.iload 5, 2) := by decide +kernel
theorem dX7_shared_114 : decode cX7_shared 114 = .ok (.iaload, 1) := by decide +kernel
theorem dX7_shared_115 : decode cX7_shared 115 = .ok (.isub, 1) := by decide +kernel
theorem dX7_shared_116 : decode cX7_shared 116 = .ok (.aload_n 0, 1) := by decide +kernel
theorem dX7_shared_117 : decode cX7_shared 117 = .ok (.getfield 44, 3) := by decide +kernel
theorem dX7_shared_120 : decode cX7_shared 120 = .ok (.iload_n 3, 1) := by decide +kernel
theorem dX7_shared_121 : decode cX7_shared 121 = .ok (.iconst 1, 1) := by decide +kernel
theorem dX7_shared_122 : decode cX7_shared 122 = .ok (.iadd, 1) := by decide +kernel
theorem dX7_shared_123 : decode cX7_shared 123 = .ok (.iaload, 1) := by decide +kernel
theorem dX7_shared_124 : decode cX7_shared 124 = .ok (.aload_n 0, 1) := by decide +kernel
theorem dX7_shared_125 : decode cX7_shared 125 = .ok (.getfield 44, 3) := by decide +kernel
theorem dX7_shared_128 : decode cX7_shared 128 = .ok (.iload_n 3, 1) := by decide +kernel
theorem dX7_shared_129 : decode cX7_shared 129 = .ok (.iaload, 1) := by decide +kernel
theorem dX7_shared_130 : decode cX7_shared 130 = .ok (.isub, 1) := by decide +kernel
theorem dX7_shared_131 : decode cX7_shared 131 = .ok (.if_icmp .ne 7, 3) := by decide +kernel
theorem dX7_shared_134 : decode cX7_shared 134 = .ok (.iconst 1, 1) := by decide +kernel
theorem dX7_shared_135 : decode cX7_shared 135 = .ok (.goto 4, 3) := by decide +kernel
theorem dX7_shared_138 : decode cX7_shared 138 = .ok (.iconst 0, 1) := by decide +kernel
theorem dX7_shared_139 : decode cX7_shared 139 = .ok (.istore 4, 2) := by decide +kernel
theorem dX7_shared_141 : decode cX7_shared 141 = .ok (.iconst 0, 1) := by decide +kernel
theorem dX7_shared_142 : decode cX7_shared 142 = .ok (.istore 6, 2) := by decide +kernel
theorem dX7_shared_144 : decode cX7_shared 144 = .ok (.iload 6, 2) := by decide +kernel
theorem dX7_shared_146 : decode cX7_shared 146 = .ok (.aload_n 0, 1) := by decide +kernel
theorem dX7_shared_147 : decode cX7_shared 147 = .ok (.getfield 44, 3) := by decide +kernel
theorem dX7_shared_150 : decode cX7_shared 150 = .ok (.iload_n 3, 1) := by decide +kernel
theorem dX7_shared_151 : decode cX7_shared 151 = .ok (.iconst 1, 1) := by decide +kernel
theorem dX7_shared_152 : decode cX7_shared 152 = .ok (.iadd, 1) := by decide +kernel
theorem dX7_shared_153 : decode cX7_shared 153 = .ok (.iaload, 1) := by decide +kernel
theorem dX7_shared_154 : decode cX7_shared 154 = .ok (.aload_n 0, 1) := by decide +kernel
theorem dX7_shared_155 : decode cX7_shared 155 = .ok (.getfield 44, 3) := by decide +kernel
theorem dX7_shared_158 : decode cX7_shared 158 = .ok (.iload_n 3, 1) := by decide +kernel
theorem dX7_shared_159 : decode cX7_shared 159 = .ok (.iaload, 1) := by decide +kernel
theorem dX7_shared_160 : decode cX7_shared 160 = .ok (.isub, 1) := by decide +kernel
theorem dX7_shared_161 : decode cX7_shared 161 = .ok (.if_icmp .ge 53, 3) := by decide +kernel
theorem dX7_shared_164 : decode cX7_shared 164 = .ok (.iload 4, 2) := by decide +kernel
theorem dX7_shared_166 : decode cX7_shared 166 = .ok (.ifCond .eq 48, 3) := by decide +kernel
theorem dX7_shared_169 : decode cX7_shared 169 = .ok (.aload_n 0, 1) := by decide +kernel
theorem dX7_shared_170 : decode cX7_shared 170 = .ok (.getfield 41, 3) := by decide +kernel
theorem dX7_shared_173 : decode cX7_shared 173 = .ok (.aload_n 0, 1) := by decide +kernel
theorem dX7_shared_174 : decode cX7_shared 174 = .ok (.getfield 38, 3) := by decide +kernel
theorem dX7_shared_177 : decode cX7_shared 177 = .ok (.iload 5, 2) := by decide +kernel
theorem dX7_shared_179 : decode cX7_shared 179 = .ok (.iaload, 1) := by decide +kernel
theorem dX7_shared_180 : decode cX7_shared 180 = .ok (.iload 6, 2) := by decide +kernel
theorem dX7_shared_182 : decode cX7_shared 182 = .ok (.iadd, 1) := by decide +kernel
theorem dX7_shared_183 : decode cX7_shared 183 = .ok (.iaload, 1) := by decide +kernel
theorem dX7_shared_184 : decode cX7_shared 184 = .ok (.aload_n 0, 1) := by decide +kernel
theorem dX7_shared_185 : decode cX7_shared 185 = .ok (.getfield 47, 3) := by decide +kernel
theorem dX7_shared_188 : decode cX7_shared 188 = .ok (.aload_n 0, 1) := by decide +kernel
theorem dX7_shared_189 : decode cX7_shared 189 = .ok (.getfield 44, 3) := by decide +kernel
theorem dX7_shared_192 : decode cX7_shared 192 = .ok (.iload_n 3, 1) := by decide +kernel
theorem dX7_shared_193 : decode cX7_shared 193 = .ok (.iaload, 1) := by decide +kernel
theorem dX7_shared_194 : decode cX7_shared 194 = .ok (.iload 6, 2) := by decide +kernel
theorem dX7_shared_196 : decode cX7_shared 196 = .ok (.iadd, 1) := by decide +kernel
theorem dX7_shared_197 : decode cX7_shared 197 = .ok (.iaload, 1) := by decide +kernel
theorem dX7_shared_198 : decode cX7_shared 198 = .ok (.if_icmp .ne 7, 3) := by decide +kernel
theorem dX7_shared_201 : decode cX7_shared 201 = .ok (.iconst 1, 1) := by decide +kernel
theorem dX7_shared_202 : decode cX7_shared 202 = .ok (.goto 4, 3) := by decide +kernel
theorem dX7_shared_205 : decode cX7_shared 205 = .ok (.iconst 0, 1) := by decide +kernel
theorem dX7_shared_206 : decode cX7_shared 206 = .ok (.istore 4, 2) := by decide +kernel
theorem dX7_shared_208 : decode cX7_shared 208 = .ok (.iinc 6 1, 3) := by decide +kernel
theorem dX7_shared_211 : decode cX7_shared 211 = .ok (.goto (-67), 3) := by decide +kernel
theorem dX7_shared_214 : decode cX7_shared 214 = .ok (.iinc 5 1, 3) := by decide +kernel
theorem dX7_shared_217 : decode cX7_shared 217 = .ok (.goto (-132), 3) := by decide +kernel
theorem dX7_shared_220 : decode cX7_shared 220 = .ok (.iload_n 2, 1) := by decide +kernel
theorem dX7_shared_221 : decode cX7_shared 221 = .ok (.iload 4, 2) := by decide +kernel
theorem dX7_shared_223 : decode cX7_shared 223 = .ok (.ifCond .eq 7, 3) := by decide +kernel
theorem dX7_shared_226 : decode cX7_shared 226 = .ok (.iconst 1, 1) := by decide +kernel
theorem dX7_shared_227 : decode cX7_shared 227 = .ok (.goto 4, 3) := by decide +kernel
theorem dX7_shared_230 : decode cX7_shared 230 = .ok (.iconst 0, 1) := by decide +kernel
theorem dX7_shared_231 : decode cX7_shared 231 = .ok (.iadd, 1) := by decide +kernel
theorem dX7_shared_232 : decode cX7_shared 232 = .ok (.istore_n 2, 1) := by decide +kernel
theorem dX7_shared_233 : decode cX7_shared 233 = .ok (.iinc 3 1, 3) := by decide +kernel
theorem dX7_shared_236 : decode cX7_shared 236 = .ok (.goto (-162), 3) := by decide +kernel
theorem dX7_shared_239 : decode cX7_shared 239 = .ok (.iload_n 2, 1) := by decide +kernel
theorem dX7_shared_240 : decode cX7_shared 240 = .ok (.ireturn, 1) := by decide +kernel
def LX7_shared_13 {ρ : Type} (T : zT) (x5 : Nat) (x6 : Int32) (K0 : zH → Option ρ) : Nat → Int32 → zH → Option ρ
  | 0, _, _ => none
  | k + 1, x7, h8 => if x6 < x7 then (K0 h8) else ((zgr h8 x5 7 17).bind fun x9 => (zgr h8 x5 7 13).bind fun x10 => (zai T h8 x10 x7).bind fun x11 => (zas T h8 x9 x7 x11).bind fun h12 => LX7_shared_13 T x5 x6 K0 k (x7 + 1) h12)
set_option maxHeartbeats 4000000 in
set_option maxRecDepth 100000 in
theorem LX7_shared_13_ok {X : zX} (C : zC X cX7_shared 7 RX7 "shared" (some .int) 7 170) {Z : State → Prop} {al : Bool} {hi : Nat} {ρ : Type} {r9 : ρ} {x5 : Nat} {x6 : Int32} {K0 : zH → Option ρ} (hK0 : ∀ (g9 : zH), K0 g9 = some r9 → zW X 7 Z 0 0 al hi g9 36 [(0, .ref x5), (1, .int x6)] []) : ∀ (k : Nat) (x7 : Int32) (h8 : zH), LX7_shared_13 (xT X) x5 x6 K0 k x7 h8 = some r9 → zW X 7 Z 0 0 al hi h8 13 [(0, .ref x5), (1, .int x6), (2, .int x7)] [] := by
  intro k
  induction k with
  | zero =>
    intro x7 h8 hf
    have hf : none = some r9 := hf
    cases hf
  | succ k ih =>
    intro x7 h8 hf
    rw [LX7_shared_13.eq_2] at hf
    refine z_iload_n C dX7_shared_13 2 rfl rfl ?_
    refine z_iload_n C dX7_shared_14 1 rfl rfl ?_
    refine z_icmp_gt (tgt := 36) C dX7_shared_15 (by decide) hf (fun hf => ?_) (fun hf => ?_)
    · refine z_sub [0, 1] rfl ?_
      exact hK0 _ hf
    · refine z_aload_n C dX7_shared_18 0 rfl rfl ?_
      refine z_getR C fl_X7_44 dX7_shared_19 hf (fun x9 hf => ?_)
      refine z_iload_n C dX7_shared_22 2 rfl rfl ?_
      refine z_aload_n C dX7_shared_23 0 rfl rfl ?_
      refine z_getR C fl_X7_38 dX7_shared_24 hf (fun x10 hf => ?_)
      refine z_iload_n C dX7_shared_27 2 rfl rfl ?_
      refine z_iaload C dX7_shared_28 hf (fun x11 hf => ?_)
      refine z_iastore C dX7_shared_29 hf (fun h12 hf => ?_)
      refine z_iinc C dX7_shared_30 (k := 2) (d := 1) rfl (by decide) (by decide) (lv' := [(2, .int (x7 + 1)), (0, .ref x5), (1, .int x6)]) rfl ?_
      refine z_goto (tgt := 13) C dX7_shared_33 (by decide) ?_
      refine z_sub [1, 2, 0] rfl ?_
      exact ih _ _ hf
def LX7_shared_38 {ρ : Type} (T : zT) (x14 : Nat) (x15 : Int32) (K0 : zH → Option ρ) : Nat → Int32 → zH → Option ρ
  | 0, _, _ => none
  | k + 1, x16, h17 => (zgi h17 x14 7 16).bind fun x18 => if x18 ≤ x16 then (K0 h17) else ((zgr h17 x14 7 18).bind fun x19 => (zgr h17 x14 7 14).bind fun x20 => (zai T h17 x20 x16).bind fun x21 => (zas T h17 x19 x16 x21).bind fun h22 => LX7_shared_38 T x14 x15 K0 k (x16 + 1) h22)
set_option maxHeartbeats 4000000 in
set_option maxRecDepth 100000 in
theorem LX7_shared_38_ok {X : zX} (C : zC X cX7_shared 7 RX7 "shared" (some .int) 7 170) {Z : State → Prop} {al : Bool} {hi : Nat} {ρ : Type} {r9 : ρ} {x14 : Nat} {x15 : Int32} {K0 : zH → Option ρ} (hK0 : ∀ (g9 : zH), K0 g9 = some r9 → zW X 7 Z 0 0 al hi g9 64 [(0, .ref x14), (1, .int x15)] []) : ∀ (k : Nat) (x16 : Int32) (h17 : zH), LX7_shared_38 (xT X) x14 x15 K0 k x16 h17 = some r9 → zW X 7 Z 0 0 al hi h17 38 [(0, .ref x14), (1, .int x15), (2, .int x16)] [] := by
  intro k
  induction k with
  | zero =>
    intro x16 h17 hf
    have hf : none = some r9 := hf
    cases hf
  | succ k ih =>
    intro x16 h17 hf
    rw [LX7_shared_38.eq_2] at hf
    refine z_iload_n C dX7_shared_38 2 rfl rfl ?_
    refine z_aload_n C dX7_shared_39 0 rfl rfl ?_
    refine z_getI C fl_X7_94 dX7_shared_40 hf (fun x18 hf => ?_)
    refine z_icmp_ge (tgt := 64) C dX7_shared_43 (by decide) hf (fun hf => ?_) (fun hf => ?_)
    · refine z_sub [0, 1] rfl ?_
      exact hK0 _ hf
    · refine z_aload_n C dX7_shared_46 0 rfl rfl ?_
      refine z_getR C fl_X7_47 dX7_shared_47 hf (fun x19 hf => ?_)
      refine z_iload_n C dX7_shared_50 2 rfl rfl ?_
      refine z_aload_n C dX7_shared_51 0 rfl rfl ?_
      refine z_getR C fl_X7_41 dX7_shared_52 hf (fun x20 hf => ?_)
      refine z_iload_n C dX7_shared_55 2 rfl rfl ?_
      refine z_iaload C dX7_shared_56 hf (fun x21 hf => ?_)
      refine z_iastore C dX7_shared_57 hf (fun h22 hf => ?_)
      refine z_iinc C dX7_shared_58 (k := 2) (d := 1) rfl (by decide) (by decide) (lv' := [(2, .int (x16 + 1)), (0, .ref x14), (1, .int x15)]) rfl ?_
      refine z_goto (tgt := 38) C dX7_shared_61 (by decide) ?_
      refine z_sub [1, 2, 0] rfl ?_
      exact ih _ _ hf
def LX7_shared_144 {ρ : Type} (T : zT) (h49 : zH) (x42 : Nat) (x43 : Int32) (x44 : Int32) (x45 : Int32) (x46 : Int32) (K0 : Int32 → Option ρ) : Nat → Int32 → Int32 → Option ρ
  | 0, _, _ => none
  | k + 1, x47, x48 => (zgr h49 x42 7 17).bind fun x50 => (zai T h49 x50 (x45 + 1)).bind fun x51 => (zgr h49 x42 7 17).bind fun x52 => (zai T h49 x52 x45).bind fun x53 => if (x51 - x53) ≤ x48 then (K0 x47) else (if x47 = 0 then (K0 x47) else (zJ (fun (x54 : Int32) => LX7_shared_144 T h49 x42 x43 x44 x45 x46 K0 k x54 (x48 + 1)) (fun J55 => (zgr h49 x42 7 14).bind fun x56 => (zgr h49 x42 7 13).bind fun x57 => (zai T h49 x57 x46).bind fun x58 => (zai T h49 x56 (x58 + x48)).bind fun x59 => (zgr h49 x42 7 18).bind fun x60 => (zgr h49 x42 7 17).bind fun x61 => (zai T h49 x61 x45).bind fun x62 => (zai T h49 x60 (x62 + x48)).bind fun x63 => if x59 = x63 then (J55 1) else (J55 0))))
set_option maxHeartbeats 4000000 in
set_option maxRecDepth 100000 in
theorem LX7_shared_144_ok {X : zX} (C : zC X cX7_shared 7 RX7 "shared" (some .int) 7 170) {Z : State → Prop} {al : Bool} {hi : Nat} {ρ : Type} {r9 : ρ} {h49 : zH} {x42 : Nat} {x43 : Int32} {x44 : Int32} {x45 : Int32} {x46 : Int32} {K0 : Int32 → Option ρ} (hK0 : ∀ (y4 : Int32), K0 y4 = some r9 → zW X 7 Z 0 0 al hi h49 214 [(0, .ref x42), (1, .int x43), (2, .int x44), (3, .int x45), (4, .int y4), (5, .int x46)] []) : ∀ (k : Nat) (x47 : Int32) (x48 : Int32), LX7_shared_144 (xT X) h49 x42 x43 x44 x45 x46 K0 k x47 x48 = some r9 → zW X 7 Z 0 0 al hi h49 144 [(0, .ref x42), (1, .int x43), (2, .int x44), (3, .int x45), (4, .int x47), (5, .int x46), (6, .int x48)] [] := by
  intro k
  induction k with
  | zero =>
    intro x47 x48 hf
    have hf : none = some r9 := hf
    cases hf
  | succ k ih =>
    intro x47 x48 hf
    rw [LX7_shared_144.eq_2] at hf
    refine z_iload C dX7_shared_144 6 rfl ?_
    refine z_aload_n C dX7_shared_146 0 rfl rfl ?_
    refine z_getR C fl_X7_44 dX7_shared_147 hf (fun x50 hf => ?_)
    refine z_iload_n C dX7_shared_150 3 rfl rfl ?_
    refine z_iconst C (v := 1) dX7_shared_151 (by decide) ?_
    refine z_iadd C dX7_shared_152 ?_
    refine z_iaload C dX7_shared_153 hf (fun x51 hf => ?_)
    refine z_aload_n C dX7_shared_154 0 rfl rfl ?_
    refine z_getR C fl_X7_44 dX7_shared_155 hf (fun x52 hf => ?_)
    refine z_iload_n C dX7_shared_158 3 rfl rfl ?_
    refine z_iaload C dX7_shared_159 hf (fun x53 hf => ?_)
    refine z_isub C dX7_shared_160 ?_
    refine z_icmp_ge (tgt := 214) C dX7_shared_161 (by decide) hf (fun hf => ?_) (fun hf => ?_)
    · refine z_sub [0, 1, 2, 3, 4, 5] rfl ?_
      exact hK0 _ hf
    · refine z_iload C dX7_shared_164 4 rfl ?_
      refine z_if_eq (tgt := 214) C dX7_shared_166 (by decide) hf (fun hf => ?_) (fun hf => ?_)
      · refine z_sub [0, 1, 2, 3, 4, 5] rfl ?_
        exact hK0 _ hf
      · refine z_join (P := fun J => ∀ (x54 : Int32), J x54 = some r9 → zW X 7 Z 0 0 al hi h49 206 [(0, .ref x42), (1, .int x43), (2, .int x44), (3, .int x45), (5, .int x46), (6, .int x48)] [.int x54]) hf ?_ ?_
        · intro x54 hf
          refine z_istore C dX7_shared_206 (by decide) (lv' := [(4, .int x54), (0, .ref x42), (1, .int x43), (2, .int x44), (3, .int x45), (5, .int x46), (6, .int x48)]) rfl ?_
          refine z_iinc C dX7_shared_208 (k := 6) (d := 1) rfl (by decide) (by decide) (lv' := [(6, .int (x48 + 1)), (4, .int x54), (0, .ref x42), (1, .int x43), (2, .int x44), (3, .int x45), (5, .int x46)]) rfl ?_
          refine z_goto (tgt := 144) C dX7_shared_211 (by decide) ?_
          refine z_sub [2, 3, 4, 5, 1, 6, 0] rfl ?_
          exact ih _ _ hf
        · intro J55 kJ55 hf
          refine z_aload_n C dX7_shared_169 0 rfl rfl ?_
          refine z_getR C fl_X7_41 dX7_shared_170 hf (fun x56 hf => ?_)
          refine z_aload_n C dX7_shared_173 0 rfl rfl ?_
          refine z_getR C fl_X7_38 dX7_shared_174 hf (fun x57 hf => ?_)
          refine z_iload C dX7_shared_177 5 rfl ?_
          refine z_iaload C dX7_shared_179 hf (fun x58 hf => ?_)
          refine z_iload C dX7_shared_180 6 rfl ?_
          refine z_iadd C dX7_shared_182 ?_
          refine z_iaload C dX7_shared_183 hf (fun x59 hf => ?_)
          refine z_aload_n C dX7_shared_184 0 rfl rfl ?_
          refine z_getR C fl_X7_47 dX7_shared_185 hf (fun x60 hf => ?_)
          refine z_aload_n C dX7_shared_188 0 rfl rfl ?_
          refine z_getR C fl_X7_44 dX7_shared_189 hf (fun x61 hf => ?_)
          refine z_iload_n C dX7_shared_192 3 rfl rfl ?_
          refine z_iaload C dX7_shared_193 hf (fun x62 hf => ?_)
          refine z_iload C dX7_shared_194 6 rfl ?_
          refine z_iadd C dX7_shared_196 ?_
          refine z_iaload C dX7_shared_197 hf (fun x63 hf => ?_)
          refine z_icmp_ne (tgt := 205) C dX7_shared_198 (by decide) hf (fun hf => ?_) (fun hf => ?_)
          · refine z_iconst C (v := 0) dX7_shared_205 (by decide) ?_
            refine z_sub [0, 1, 2, 3, 5, 6] rfl ?_
            exact kJ55 _ hf
          · refine z_iconst C (v := 1) dX7_shared_201 (by decide) ?_
            refine z_goto (tgt := 206) C dX7_shared_202 (by decide) ?_
            refine z_sub [0, 1, 2, 3, 5, 6] rfl ?_
            exact kJ55 _ hf
def LX7_shared_85 {ρ : Type} (T : zT) (h38 : zH) (x32 : Nat) (x33 : Int32) (x34 : Int32) (x35 : Int32) (K0 : Int32 → Option ρ) : Nat → Int32 → Int32 → Option ρ
  | 0, _, _ => none
  | k + 1, x36, x37 => (zgi h38 x32 7 15).bind fun x39 => if x39 ≤ x37 then (K0 x36) else (if x36 = 0 then (zJ (fun (x40 : Int32) => LX7_shared_144 T h38 x32 x33 x34 x35 x37 (fun (x64 : Int32) => LX7_shared_85 T h38 x32 x33 x34 x35 K0 k x64 (x37 + 1)) FUEL x40 0) (fun J41 => (zgr h38 x32 7 13).bind fun x65 => (zai T h38 x65 (x37 + 1)).bind fun x66 => (zgr h38 x32 7 13).bind fun x67 => (zai T h38 x67 x37).bind fun x68 => (zgr h38 x32 7 17).bind fun x69 => (zai T h38 x69 (x35 + 1)).bind fun x70 => (zgr h38 x32 7 17).bind fun x71 => (zai T h38 x71 x35).bind fun x72 => if (x66 - x68) = (x70 - x72) then (J41 1) else (J41 0))) else (K0 x36))
set_option maxHeartbeats 4000000 in
set_option maxRecDepth 100000 in
theorem LX7_shared_85_ok {X : zX} (C : zC X cX7_shared 7 RX7 "shared" (some .int) 7 170) {Z : State → Prop} {al : Bool} {hi : Nat} {ρ : Type} {r9 : ρ} {h38 : zH} {x32 : Nat} {x33 : Int32} {x34 : Int32} {x35 : Int32} {K0 : Int32 → Option ρ} (hK0 : ∀ (y4 : Int32), K0 y4 = some r9 → zW X 7 Z 0 0 al hi h38 220 [(0, .ref x32), (1, .int x33), (2, .int x34), (3, .int x35), (4, .int y4)] []) : ∀ (k : Nat) (x36 : Int32) (x37 : Int32), LX7_shared_85 (xT X) h38 x32 x33 x34 x35 K0 k x36 x37 = some r9 → zW X 7 Z 0 0 al hi h38 85 [(0, .ref x32), (1, .int x33), (2, .int x34), (3, .int x35), (4, .int x36), (5, .int x37)] [] := by
  intro k
  induction k with
  | zero =>
    intro x36 x37 hf
    have hf : none = some r9 := hf
    cases hf
  | succ k ih =>
    intro x36 x37 hf
    rw [LX7_shared_85.eq_2] at hf
    refine z_iload C dX7_shared_85 5 rfl ?_
    refine z_aload_n C dX7_shared_87 0 rfl rfl ?_
    refine z_getI C fl_X7_91 dX7_shared_88 hf (fun x39 hf => ?_)
    refine z_icmp_ge (tgt := 220) C dX7_shared_91 (by decide) hf (fun hf => ?_) (fun hf => ?_)
    · refine z_sub [0, 1, 2, 3, 4] rfl ?_
      exact hK0 _ hf
    · refine z_iload C dX7_shared_94 4 rfl ?_
      refine z_if_ne (tgt := 220) C dX7_shared_96 (by decide) hf (fun hf => ?_) (fun hf => ?_)
      · refine z_sub [0, 1, 2, 3, 4] rfl ?_
        exact hK0 _ hf
      · refine z_join (P := fun J => ∀ (x40 : Int32), J x40 = some r9 → zW X 7 Z 0 0 al hi h38 139 [(0, .ref x32), (1, .int x33), (2, .int x34), (3, .int x35), (5, .int x37)] [.int x40]) hf ?_ ?_
        · intro x40 hf
          refine z_istore C dX7_shared_139 (by decide) (lv' := [(4, .int x40), (0, .ref x32), (1, .int x33), (2, .int x34), (3, .int x35), (5, .int x37)]) rfl ?_
          refine z_iconst C (v := 0) dX7_shared_141 (by decide) ?_
          refine z_istore C dX7_shared_142 (by decide) (lv' := [(6, .int 0), (4, .int x40), (0, .ref x32), (1, .int x33), (2, .int x34), (3, .int x35), (5, .int x37)]) rfl ?_
          refine z_sub [2, 3, 4, 5, 1, 6, 0] rfl ?_
          refine LX7_shared_144_ok C ?_ FUEL _ _ hf
          · intro x64 hf
            refine z_iinc C dX7_shared_214 (k := 5) (d := 1) rfl (by decide) (by decide) (lv' := [(5, .int (x37 + 1)), (0, .ref x32), (1, .int x33), (2, .int x34), (3, .int x35), (4, .int x64)]) rfl ?_
            refine z_goto (tgt := 85) C dX7_shared_217 (by decide) ?_
            refine z_sub [1, 2, 3, 4, 5, 0] rfl ?_
            exact ih _ _ hf
        · intro J41 kJ41 hf
          refine z_aload_n C dX7_shared_99 0 rfl rfl ?_
          refine z_getR C fl_X7_38 dX7_shared_100 hf (fun x65 hf => ?_)
          refine z_iload C dX7_shared_103 5 rfl ?_
          refine z_iconst C (v := 1) dX7_shared_105 (by decide) ?_
          refine z_iadd C dX7_shared_106 ?_
          refine z_iaload C dX7_shared_107 hf (fun x66 hf => ?_)
          refine z_aload_n C dX7_shared_108 0 rfl rfl ?_
          refine z_getR C fl_X7_38 dX7_shared_109 hf (fun x67 hf => ?_)
          refine z_iload C dX7_shared_112 5 rfl ?_
          refine z_iaload C dX7_shared_114 hf (fun x68 hf => ?_)
          refine z_isub C dX7_shared_115 ?_
          refine z_aload_n C dX7_shared_116 0 rfl rfl ?_
          refine z_getR C fl_X7_44 dX7_shared_117 hf (fun x69 hf => ?_)
          refine z_iload_n C dX7_shared_120 3 rfl rfl ?_
          refine z_iconst C (v := 1) dX7_shared_121 (by decide) ?_
          refine z_iadd C dX7_shared_122 ?_
          refine z_iaload C dX7_shared_123 hf (fun x70 hf => ?_)
          refine z_aload_n C dX7_shared_124 0 rfl rfl ?_
          refine z_getR C fl_X7_44 dX7_shared_125 hf (fun x71 hf => ?_)
          refine z_iload_n C dX7_shared_128 3 rfl rfl ?_
          refine z_iaload C dX7_shared_129 hf (fun x72 hf => ?_)
          refine z_isub C dX7_shared_130 ?_
          refine z_icmp_ne (tgt := 138) C dX7_shared_131 (by decide) hf (fun hf => ?_) (fun hf => ?_)
          · refine z_iconst C (v := 0) dX7_shared_138 (by decide) ?_
            refine z_sub [0, 1, 2, 3, 5] rfl ?_
            exact kJ41 _ hf
          · refine z_iconst C (v := 1) dX7_shared_134 (by decide) ?_
            refine z_goto (tgt := 139) C dX7_shared_135 (by decide) ?_
            refine z_sub [0, 1, 2, 3, 5] rfl ?_
            exact kJ41 _ hf
def LX7_shared_74 {ρ : Type} (T : zT) (h31 : zH) (x27 : Nat) (x28 : Int32) (K0 : Int32 → Option ρ) : Nat → Int32 → Int32 → Option ρ
  | 0, _, _ => none
  | k + 1, x29, x30 => if x28 ≤ x30 then (K0 x29) else (LX7_shared_85 T h31 x27 x28 x29 x30 (fun (x73 : Int32) => zJ (fun (x74 : Int32) (x75 : Int32) => LX7_shared_74 T h31 x27 x28 K0 k (x75 + x74) (x30 + 1)) (fun J76 => if x73 = 0 then (J76 0 x29) else (J76 1 x29))) FUEL 0 0)
set_option maxHeartbeats 4000000 in
set_option maxRecDepth 100000 in
theorem LX7_shared_74_ok {X : zX} (C : zC X cX7_shared 7 RX7 "shared" (some .int) 7 170) {Z : State → Prop} {al : Bool} {hi : Nat} {ρ : Type} {r9 : ρ} {h31 : zH} {x27 : Nat} {x28 : Int32} {K0 : Int32 → Option ρ} (hK0 : ∀ (y2 : Int32), K0 y2 = some r9 → zW X 7 Z 0 0 al hi h31 239 [(2, .int y2)] []) : ∀ (k : Nat) (x29 : Int32) (x30 : Int32), LX7_shared_74 (xT X) h31 x27 x28 K0 k x29 x30 = some r9 → zW X 7 Z 0 0 al hi h31 74 [(0, .ref x27), (1, .int x28), (2, .int x29), (3, .int x30)] [] := by
  intro k
  induction k with
  | zero =>
    intro x29 x30 hf
    have hf : none = some r9 := hf
    cases hf
  | succ k ih =>
    intro x29 x30 hf
    rw [LX7_shared_74.eq_2] at hf
    refine z_iload_n C dX7_shared_74 3 rfl rfl ?_
    refine z_iload_n C dX7_shared_75 1 rfl rfl ?_
    refine z_icmp_ge (tgt := 239) C dX7_shared_76 (by decide) hf (fun hf => ?_) (fun hf => ?_)
    · refine z_sub [2] rfl ?_
      exact hK0 _ hf
    · refine z_iconst C (v := 0) dX7_shared_79 (by decide) ?_
      refine z_istore C dX7_shared_80 (by decide) (lv' := [(4, .int 0), (0, .ref x27), (1, .int x28), (2, .int x29), (3, .int x30)]) rfl ?_
      refine z_iconst C (v := 0) dX7_shared_82 (by decide) ?_
      refine z_istore C dX7_shared_83 (by decide) (lv' := [(5, .int 0), (4, .int 0), (0, .ref x27), (1, .int x28), (2, .int x29), (3, .int x30)]) rfl ?_
      refine z_sub [2, 3, 4, 5, 1, 0] rfl ?_
      refine LX7_shared_85_ok C ?_ FUEL _ _ hf
      · intro x73 hf
        refine z_join (P := fun J => ∀ (x74 : Int32) (x75 : Int32), J x74 x75 = some r9 → zW X 7 Z 0 0 al hi h31 231 [(0, .ref x27), (1, .int x28), (3, .int x30)] [.int x74, .int x75]) hf ?_ ?_
        · intro x74 x75 hf
          refine z_iadd C dX7_shared_231 ?_
          refine z_istore_n C dX7_shared_232 rfl (by decide) (lv' := [(2, .int (x75 + x74)), (0, .ref x27), (1, .int x28), (3, .int x30)]) rfl ?_
          refine z_iinc C dX7_shared_233 (k := 3) (d := 1) rfl (by decide) (by decide) (lv' := [(3, .int (x30 + 1)), (2, .int (x75 + x74)), (0, .ref x27), (1, .int x28)]) rfl ?_
          refine z_goto (tgt := 74) C dX7_shared_236 (by decide) ?_
          refine z_sub [2, 3, 1, 0] rfl ?_
          exact ih _ _ hf
        · intro J76 kJ76 hf
          refine z_iload_n C dX7_shared_220 2 rfl rfl ?_
          refine z_iload C dX7_shared_221 4 rfl ?_
          refine z_if_eq (tgt := 230) C dX7_shared_223 (by decide) hf (fun hf => ?_) (fun hf => ?_)
          · refine z_iconst C (v := 0) dX7_shared_230 (by decide) ?_
            refine z_sub [0, 1, 3] rfl ?_
            exact kJ76 _ _ hf
          · refine z_iconst C (v := 1) dX7_shared_226 (by decide) ?_
            refine z_goto (tgt := 231) C dX7_shared_227 (by decide) ?_
            refine z_sub [0, 1, 3] rfl ?_
            exact kJ76 _ _ hf
def FX7_shared (T : zT) (a0 : Nat) (h : zH) : Option (Int32 × zH) := (zo h a0 7).bind fun _ => (zpv h a0 7 0 (.int 0)).bind fun h1 => zb2 (FX7_layNow T a0 0 h1) fun x3 h4 => LX7_shared_13 T a0 x3 (fun (h13 : zH) => LX7_shared_38 T a0 x3 (fun (h23 : zH) => zb2 (FX7_layNow T a0 1 h23) fun x25 h26 => LX7_shared_74 T h26 a0 x3 (fun (x77 : Int32) => some (x77, h26)) FUEL 0 0) FUEL 0 h13) FUEL 0 h4
set_option maxHeartbeats 4000000 in
set_option maxRecDepth 100000 in
theorem BX7_shared {X : zX} (C : zC X cX7_shared 7 RX7 "shared" (some .int) 7 170) {al : Bool} {hi : Nat} {h : zH} {a0 : Nat} {r9 : (Int32 × zH)} (hf : FX7_shared (xT X) a0 h = some r9) : zW X 7 (zZ X al (some (.int r9.1), hi, r9.2)) 0 0 al hi h 0 [(0, .ref a0)] [] := by
  unfold FX7_shared at hf
  obtain ⟨_, _, hf⟩ := zbind hf
  refine z_aload_n C dX7_shared_0 0 rfl rfl ?_
  refine z_iconst C (v := 0) dX7_shared_1 (by decide) ?_
  refine z_put C fl_X7_54 dX7_shared_2 rfl rfl hf (fun h1 hf => ?_)
  refine z_aload_n C dX7_shared_5 0 rfl rfl ?_
  refine z_iconst C (v := 0) dX7_shared_6 (by decide) ?_
  obtain ⟨x3, h4, g2, hf⟩ := zbind2 hf
  refine z_callV (kc' := 0) (ks' := 0) C (MX7_layNow (xl X) (xD X) (xT X) (xlo X) al hi g2) (OX7_layNow g2) rfl cw_X7_187 yv_X7_layNow dX7_shared_7 rfl (by decide) ⟨rfl, rfl⟩ (Nat.le_of_ble_eq_true rfl) (st := []) rfl ?_
  refine z_istore_n C dX7_shared_10 rfl (by decide) (lv' := [(1, .int x3), (0, .ref a0)]) rfl ?_
  refine z_iconst C (v := 0) dX7_shared_11 (by decide) ?_
  refine z_istore_n C dX7_shared_12 rfl (by decide) (lv' := [(2, .int 0), (1, .int x3), (0, .ref a0)]) rfl ?_
  refine z_sub [2, 1, 0] rfl ?_
  refine LX7_shared_13_ok C ?_ FUEL _ _ hf
  · intro h13 hf
    refine z_iconst C (v := 0) dX7_shared_36 (by decide) ?_
    refine z_istore_n C dX7_shared_37 rfl (by decide) (lv' := [(2, .int 0), (0, .ref a0), (1, .int x3)]) rfl ?_
    refine z_sub [1, 2, 0] rfl ?_
    refine LX7_shared_38_ok C ?_ FUEL _ _ hf
    · intro h23 hf
      refine z_aload_n C dX7_shared_64 0 rfl rfl ?_
      refine z_iconst C (v := 1) dX7_shared_65 (by decide) ?_
      obtain ⟨x25, h26, g24, hf⟩ := zbind2 hf
      refine z_callV (kc' := 0) (ks' := 0) C (MX7_layNow (xl X) (xD X) (xT X) (xlo X) al hi g24) (OX7_layNow g24) rfl cw_X7_187 yv_X7_layNow dX7_shared_66 rfl (by decide) ⟨rfl, rfl⟩ (Nat.le_of_ble_eq_true rfl) (st := []) rfl ?_
      refine z_pop C dX7_shared_69 rfl ?_
      refine z_iconst C (v := 0) dX7_shared_70 (by decide) ?_
      refine z_istore_n C dX7_shared_71 rfl (by decide) (lv' := [(2, .int 0), (0, .ref a0), (1, .int x3)]) rfl ?_
      refine z_iconst C (v := 0) dX7_shared_72 (by decide) ?_
      refine z_istore_n C dX7_shared_73 rfl (by decide) (lv' := [(3, .int 0), (2, .int 0), (0, .ref a0), (1, .int x3)]) rfl ?_
      refine z_sub [2, 3, 1, 0] rfl ?_
      refine LX7_shared_74_ok C ?_ FUEL _ _ hf
      · intro x77 hf
        refine z_iload_n C dX7_shared_239 0 rfl rfl ?_
        exact z_ireturn C dX7_shared_240 (by cases hf; rfl)
theorem MX7_shared (l : Launch) (D : va_G) (T : zT) (lo : Nat) (al : Bool) (hi : Nat) {h : zH} {a0 : Nat} {v9 : Int32} {h9 : zH} (hf : FX7_shared T a0 h = some (v9, h9)) : zM l yX7_shared (.code yX7_shared cX7_shared 7 (some .int) :: TW) ({ frames := 7, cells := 0, slots := 0, locals := 170 } : Room) D T lo al [.ref a0] hi h (some (.int v9), hi, h9) :=
  z_enter (own := RX7) (nm := "shared") (lv := [(0, .ref a0)]) (by decide +kernel) rfl rfl (Nat.le_of_ble_eq_true rfl) rfl (fun _ _ _ _ _ _ _ _ C => BX7_shared C hf)
theorem OX7_shared {T : zT} {h : zH} {a0 : Nat} {r9 : (Int32 × zH)} (hf : FX7_shared T a0 h = some r9) : ∃ fs, h a0 = some (.inr (7, fs)) := by
  obtain ⟨_, h1, _⟩ := zbind hf
  exact zo_obj h1
theorem dX7_count_0 : decode cX7_count 0 = .ok (.aload_n 0, 1) := by decide +kernel
theorem dX7_count_1 : decode cX7_count 1 = .ok (.iload_n 1, 1) := by decide +kernel
theorem dX7_count_2 : decode cX7_count 2 = .ok (.invokestatic 182, 3) := by decide +kernel
theorem dX7_count_5 : decode cX7_count 5 = .ok (.ifCond .ne 7, 3) := by decide +kernel
theorem dX7_count_8 : decode cX7_count 8 = .ok (.iconst 1, 1) := by decide +kernel
theorem dX7_count_9 : decode cX7_count 9 = .ok (.goto 20, 3) := by decide +kernel
theorem dX7_count_12 : decode cX7_count 12 = .ok (.iload_n 2, 1) := by decide +kernel
theorem dX7_count_13 : decode cX7_count 13 = .ok (.i2l, 1) := by decide +kernel
theorem dX7_count_14 : decode cX7_count 14 = .ok (.lconst 0, 1) := by decide +kernel
theorem dX7_count_15 : decode cX7_count 15 = .ok (.ldc2_w 200, 3) := by decide +kernel
theorem dX7_count_18 : decode cX7_count 18 = .ok (.invokestatic 58, 3) := by decide +kernel
theorem dX7_count_21 : decode cX7_count 21 = .ok (.ifCond .ne 7, 3) := by decide +kernel
theorem dX7_count_24 : decode cX7_count 24 = .ok (.iconst 2, 1) := by decide +kernel
theorem dX7_count_25 : decode cX7_count 25 = .ok (.goto 4, 3) := by decide +kernel
theorem dX7_count_28 : decode cX7_count 28 = .ok (.iconst 0, 1) := by decide +kernel
theorem dX7_count_29 : decode cX7_count 29 = .ok (.invokevirtual 120, 3) := by decide +kernel
theorem dX7_count_32 : decode cX7_count 32 = .ok (.ifCond .eq 5, 3) := by decide +kernel
theorem dX7_count_35 : decode cX7_count 35 = .ok (.iconst 0, 1) := by decide +kernel
theorem dX7_count_36 : decode cX7_count 36 = .ok (.ireturn, 1) := by decide +kernel
theorem dX7_count_37 : decode cX7_count 37 = .ok (.aload_n 0, 1) := by decide +kernel
theorem dX7_count_38 : decode cX7_count 38 = .ok (.iload_n 1, 1) := by decide +kernel
theorem dX7_count_39 : decode cX7_count 39 = .ok (.invokevirtual 187, 3) := by decide +kernel
theorem dX7_count_42 : decode cX7_count 42 = .ok (.pop, 1) := by decide +kernel
theorem dX7_count_43 : decode cX7_count 43 = .ok (.iconst 0, 1) := by decide +kernel
theorem dX7_count_44 : decode cX7_count 44 = .ok (.istore_n 3, 1) := by decide +kernel
theorem dX7_count_45 : decode cX7_count 45 = .ok (.iconst 0, 1) := by decide +kernel
theorem dX7_count_46 : decode cX7_count 46 = .ok (.istore 4, 2) := by decide +kernel
theorem dX7_count_48 : decode cX7_count 48 = .ok (.iload 4, 2) := by decide +kernel
theorem dX7_count_50 : decode cX7_count 50 = .ok (.aload_n 0, 1) := by decide +kernel
theorem dX7_count_51 : decode cX7_count 51 = .ok (.getfield 94, 3) := by decide +kernel
theorem dX7_count_54 : decode cX7_count 54 = .ok (.if_icmp .ge 28, 3) := by decide +kernel
theorem dX7_count_57 : decode cX7_count 57 = .ok (.iload_n 3, 1) := by decide +kernel
theorem dX7_count_58 : decode cX7_count 58 = .ok (.aload_n 0, 1) := by decide +kernel
theorem dX7_count_59 : decode cX7_count 59 = .ok (.getfield 41, 3) := by decide +kernel
theorem dX7_count_62 : decode cX7_count 62 = .ok (.iload 4, 2) := by decide +kernel
theorem dX7_count_64 : decode cX7_count 64 = .ok (.iaload, 1) := by decide +kernel
theorem dX7_count_65 : decode cX7_count 65 = .ok (.iload_n 2, 1) := by decide +kernel
theorem dX7_count_66 : decode cX7_count 66 = .ok (.if_icmp .ne 7, 3) := by decide +kernel
theorem dX7_count_69 : decode cX7_count 69 = .ok (.iconst 1, 1) := by decide +kernel
theorem dX7_count_70 : decode cX7_count 70 = .ok (.goto 4, 3) := by decide +kernel
theorem dX7_count_73 : decode cX7_count 73 = .ok (.iconst 0, 1) := by decide +kernel
theorem dX7_count_74 : decode cX7_count 74 = .ok (.iadd, 1) := by decide +kernel
theorem dX7_count_75 : decode cX7_count 75 = .ok (.istore_n 3, 1) := by decide +kernel
theorem dX7_count_76 : decode cX7_count 76 = .ok (.iinc 4 1, 3) := by decide +kernel
theorem dX7_count_79 : decode cX7_count 79 = .ok (.goto (-31), 3) := by decide +kernel
theorem dX7_count_82 : decode cX7_count 82 = .ok (.iload_n 3, 1) := by decide +kernel
theorem dX7_count_83 : decode cX7_count 83 = .ok (.ireturn, 1) := by decide +kernel
def LX7_count_48 {ρ : Type} (T : zT) (h14 : zH) (x10 : Nat) (x11 : Int32) (K0 : Int32 → Option ρ) : Nat → Int32 → Int32 → Option ρ
  | 0, _, _ => none
  | k + 1, x12, x13 => (zgi h14 x10 7 16).bind fun x15 => if x15 ≤ x13 then (K0 x12) else (zJ (fun (x16 : Int32) (x17 : Int32) => LX7_count_48 T h14 x10 x11 K0 k (x17 + x16) (x13 + 1)) (fun J18 => (zgr h14 x10 7 14).bind fun x19 => (zai T h14 x19 x13).bind fun x20 => if x20 = x11 then (J18 1 x12) else (J18 0 x12)))
set_option maxHeartbeats 4000000 in
set_option maxRecDepth 100000 in
theorem LX7_count_48_ok {X : zX} (C : zC X cX7_count 5 RX7 "count" (some .int) 7 170) {Z : State → Prop} {al : Bool} {hi : Nat} {ρ : Type} {r9 : ρ} {h14 : zH} {x10 : Nat} {x11 : Int32} {K0 : Int32 → Option ρ} (hK0 : ∀ (y3 : Int32), K0 y3 = some r9 → zW X 5 Z 0 0 al hi h14 82 [(3, .int y3)] []) : ∀ (k : Nat) (x12 : Int32) (x13 : Int32), LX7_count_48 (xT X) h14 x10 x11 K0 k x12 x13 = some r9 → zW X 5 Z 0 0 al hi h14 48 [(0, .ref x10), (2, .int x11), (3, .int x12), (4, .int x13)] [] := by
  intro k
  induction k with
  | zero =>
    intro x12 x13 hf
    have hf : none = some r9 := hf
    cases hf
  | succ k ih =>
    intro x12 x13 hf
    rw [LX7_count_48.eq_2] at hf
    refine z_iload C dX7_count_48 3 rfl ?_
    refine z_aload_n C dX7_count_50 0 rfl rfl ?_
    refine z_getI C fl_X7_94 dX7_count_51 hf (fun x15 hf => ?_)
    refine z_icmp_ge (tgt := 82) C dX7_count_54 (by decide) hf (fun hf => ?_) (fun hf => ?_)
    · refine z_sub [2] rfl ?_
      exact hK0 _ hf
    · refine z_join (P := fun J => ∀ (x16 : Int32) (x17 : Int32), J x16 x17 = some r9 → zW X 5 Z 0 0 al hi h14 74 [(0, .ref x10), (2, .int x11), (4, .int x13)] [.int x16, .int x17]) hf ?_ ?_
      · intro x16 x17 hf
        refine z_iadd C dX7_count_74 ?_
        refine z_istore_n C dX7_count_75 rfl (by decide) (lv' := [(3, .int (x17 + x16)), (0, .ref x10), (2, .int x11), (4, .int x13)]) rfl ?_
        refine z_iinc C dX7_count_76 (k := 3) (d := 1) rfl (by decide) (by decide) (lv' := [(4, .int (x13 + 1)), (3, .int (x17 + x16)), (0, .ref x10), (2, .int x11)]) rfl ?_
        refine z_goto (tgt := 48) C dX7_count_79 (by decide) ?_
        refine z_sub [2, 3, 1, 0] rfl ?_
        exact ih _ _ hf
      · intro J18 kJ18 hf
        refine z_iload_n C dX7_count_57 2 rfl rfl ?_
        refine z_aload_n C dX7_count_58 0 rfl rfl ?_
        refine z_getR C fl_X7_41 dX7_count_59 hf (fun x19 hf => ?_)
        refine z_iload C dX7_count_62 3 rfl ?_
        refine z_iaload C dX7_count_64 hf (fun x20 hf => ?_)
        refine z_iload_n C dX7_count_65 1 rfl rfl ?_
        refine z_icmp_ne (tgt := 73) C dX7_count_66 (by decide) hf (fun hf => ?_) (fun hf => ?_)
        · refine z_iconst C (v := 0) dX7_count_73 (by decide) ?_
          refine z_sub [0, 1, 3] rfl ?_
          exact kJ18 _ _ hf
        · refine z_iconst C (v := 1) dX7_count_69 (by decide) ?_
          refine z_goto (tgt := 74) C dX7_count_70 (by decide) ?_
          refine z_sub [0, 1, 3] rfl ?_
          exact kJ18 _ _ hf
def FX7_count (T : zT) (a0 : Nat) (p0 : Int32) (p1 : Int32) (h : zH) : Option (Int32 × zH) := (zo h a0 7).bind fun _ => zJ (fun (x1 : Int32) (x2 : Nat) => zb2 (FX7_refused T x2 x1 h) fun x5 h6 => if x5 = 0 then (zb2 (FX7_layNow T a0 p0 h6) fun x8 h9 => LX7_count_48 T h9 a0 p1 (fun (x21 : Int32) => some (x21, h9)) FUEL 0 0) else (some (0, h6))) (fun J3 => (FX7_isLetter T p0 h).bind fun x23 => if x23 = 0 then (J3 1 a0) else ((FX7_in T p1.toInt64 (0 : Int64) (26 : Int64) h).bind fun x25 => if x25 = 0 then (J3 2 a0) else (J3 0 a0)))
set_option maxHeartbeats 4000000 in
set_option maxRecDepth 100000 in
theorem BX7_count {X : zX} (C : zC X cX7_count 5 RX7 "count" (some .int) 7 170) {al : Bool} {hi : Nat} {h : zH} {a0 : Nat} {p0 : Int32} {p1 : Int32} {r9 : (Int32 × zH)} (hf : FX7_count (xT X) a0 p0 p1 h = some r9) : zW X 5 (zZ X al (some (.int r9.1), hi, r9.2)) 0 0 al hi h 0 [(0, .ref a0), (1, .int p0), (2, .int p1)] [] := by
  unfold FX7_count at hf
  obtain ⟨_, _, hf⟩ := zbind hf
  refine z_join (P := fun J => ∀ (x1 : Int32) (x2 : Nat), J x1 x2 = some r9 → zW X 5 (zZ X al (some (.int r9.1), hi, r9.2)) 0 0 al hi h 29 [(0, .ref a0), (1, .int p0), (2, .int p1)] [.int x1, .ref x2]) hf ?_ ?_
  · intro x1 x2 hf
    obtain ⟨x5, h6, g4, hf⟩ := zbind2 hf
    refine z_callV (kc' := 0) (ks' := 0) C (MX7_refused (xl X) (xD X) (xT X) (xlo X) al hi g4) (OX7_refused g4) rfl cw_X7_120 yv_X7_refused dX7_count_29 rfl (by decide) ⟨rfl, rfl⟩ (Nat.le_of_ble_eq_true rfl) (st := []) rfl ?_
    refine z_if_eq (tgt := 37) C dX7_count_32 (by decide) hf (fun hf => ?_) (fun hf => ?_)
    · refine z_aload_n C dX7_count_37 0 rfl rfl ?_
      refine z_iload_n C dX7_count_38 1 rfl rfl ?_
      obtain ⟨x8, h9, g7, hf⟩ := zbind2 hf
      refine z_callV (kc' := 0) (ks' := 0) C (MX7_layNow (xl X) (xD X) (xT X) (xlo X) al hi g7) (OX7_layNow g7) rfl cw_X7_187 yv_X7_layNow dX7_count_39 rfl (by decide) ⟨rfl, rfl⟩ (Nat.le_of_ble_eq_true rfl) (st := []) rfl ?_
      refine z_pop C dX7_count_42 rfl ?_
      refine z_iconst C (v := 0) dX7_count_43 (by decide) ?_
      refine z_istore_n C dX7_count_44 rfl (by decide) (lv' := [(3, .int 0), (0, .ref a0), (1, .int p0), (2, .int p1)]) rfl ?_
      refine z_iconst C (v := 0) dX7_count_45 (by decide) ?_
      refine z_istore C dX7_count_46 (by decide) (lv' := [(4, .int 0), (3, .int 0), (0, .ref a0), (1, .int p0), (2, .int p1)]) rfl ?_
      refine z_sub [2, 4, 1, 0] rfl ?_
      refine LX7_count_48_ok C ?_ FUEL _ _ hf
      · intro x21 hf
        refine z_iload_n C dX7_count_82 0 rfl rfl ?_
        exact z_ireturn C dX7_count_83 (by cases hf; rfl)
    · refine z_iconst C (v := 0) dX7_count_35 (by decide) ?_
      exact z_ireturn C dX7_count_36 (by cases hf; rfl)
  · intro J3 kJ3 hf
    refine z_aload_n C dX7_count_0 0 rfl rfl ?_
    refine z_iload_n C dX7_count_1 1 rfl rfl ?_
    obtain ⟨x23, g22, hf⟩ := zbind hf
    refine z_callS (kc' := 0) (ks' := 0) C (MX7_isLetter (xl X) (xD X) (xT X) (xlo X) al hi g22) cw_X7_182 ys_X7_isLetter dX7_count_2 rfl (by decide) ⟨rfl, rfl⟩ (Nat.le_of_ble_eq_true rfl) (st := [.ref a0]) rfl ?_
    refine z_if_ne (tgt := 12) C dX7_count_5 (by decide) hf (fun hf => ?_) (fun hf => ?_)
    · refine z_iload_n C dX7_count_12 2 rfl rfl ?_
      refine z_i2l C dX7_count_13 ?_
      refine z_lconst C (v := 0) dX7_count_14 (by decide) ?_
      refine z_ldc2 C (v := 26) mw_1211 dX7_count_15 ?_
      obtain ⟨x25, g24, hf⟩ := zbind hf
      refine z_callS (kc' := 0) (ks' := 0) C (MX7_in (xl X) (xD X) (xT X) (xlo X) al hi g24) cw_X7_58 ys_X7_in dX7_count_18 rfl (by decide) ⟨rfl, rfl⟩ (Nat.le_of_ble_eq_true rfl) (st := [.ref a0]) rfl ?_
      refine z_if_ne (tgt := 28) C dX7_count_21 (by decide) hf (fun hf => ?_) (fun hf => ?_)
      · refine z_iconst C (v := 0) dX7_count_28 (by decide) ?_
        exact kJ3 _ _ hf
      · refine z_iconst C (v := 2) dX7_count_24 (by decide) ?_
        refine z_goto (tgt := 29) C dX7_count_25 (by decide) ?_
        exact kJ3 _ _ hf
    · refine z_iconst C (v := 1) dX7_count_8 (by decide) ?_
      refine z_goto (tgt := 29) C dX7_count_9 (by decide) ?_
      exact kJ3 _ _ hf
theorem MX7_count (l : Launch) (D : va_G) (T : zT) (lo : Nat) (al : Bool) (hi : Nat) {h : zH} {a0 : Nat} {p0 : Int32} {p1 : Int32} {v9 : Int32} {h9 : zH} (hf : FX7_count T a0 p0 p1 h = some (v9, h9)) : zM l yX7_count (.code yX7_count cX7_count 5 (some .int) :: TW) ({ frames := 7, cells := 0, slots := 0, locals := 170 } : Room) D T lo al [.ref a0, .int p0, .int p1] hi h (some (.int v9), hi, h9) :=
  z_enter (own := RX7) (nm := "count") (lv := [(0, .ref a0), (1, .int p0), (2, .int p1)]) (by decide +kernel) rfl rfl (Nat.le_of_ble_eq_true rfl) rfl (fun _ _ _ _ _ _ _ _ C => BX7_count C hf)
theorem OX7_count {T : zT} {h : zH} {a0 : Nat} {p0 : Int32} {p1 : Int32} {r9 : (Int32 × zH)} (hf : FX7_count T a0 p0 p1 h = some r9) : ∃ fs, h a0 = some (.inr (7, fs)) := by
  obtain ⟨_, h1, _⟩ := zbind hf
  exact zo_obj h1
theorem dX7_bestPen_0 : decode cX7_bestPen 0 = .ok (.aload_n 0, 1) := by decide +kernel
theorem dX7_bestPen_1 : decode cX7_bestPen 1 = .ok (.iload_n 1, 1) := by decide +kernel
theorem dX7_bestPen_2 : decode cX7_bestPen 2 = .ok (.invokestatic 182, 3) := by decide +kernel
theorem dX7_bestPen_5 : decode cX7_bestPen 5 = .ok (.ifCond .eq 7, 3) := by decide +kernel
theorem dX7_bestPen_8 : decode cX7_bestPen 8 = .ok (.iconst 0, 1) := by decide +kernel
theorem dX7_bestPen_9 : decode cX7_bestPen 9 = .ok (.goto 4, 3) := by decide +kernel
theorem dX7_bestPen_12 : decode cX7_bestPen 12 = .ok (.iconst 1, 1) := by decide +kernel
theorem dX7_bestPen_13 : decode cX7_bestPen 13 = .ok (.invokevirtual 120, 3) := by decide +kernel
theorem dX7_bestPen_16 : decode cX7_bestPen 16 = .ok (.ifCond .eq 5, 3) := by decide +kernel
theorem dX7_bestPen_19 : decode cX7_bestPen 19 = .ok (.iconst 0, 1) := by decide +kernel
theorem dX7_bestPen_20 : decode cX7_bestPen 20 = .ok (.ireturn, 1) := by decide +kernel
theorem dX7_bestPen_21 : decode cX7_bestPen 21 = .ok (.aload_n 0, 1) := by decide +kernel
theorem dX7_bestPen_22 : decode cX7_bestPen 22 = .ok (.getfield 16, 3) := by decide +kernel
theorem dX7_bestPen_25 : decode cX7_bestPen 25 = .ok (.iconst 0, 1) := by decide +kernel
theorem dX7_bestPen_26 : decode cX7_bestPen 26 = .ok (.aload_n 0, 1) := by decide +kernel
theorem dX7_bestPen_27 : decode cX7_bestPen 27 = .ok (.getfield 19, 3) := by decide +kernel
theorem dX7_bestPen_30 : decode cX7_bestPen 30 = .ok (.iconst 0, 1) := by decide +kernel
theorem dX7_bestPen_31 : decode cX7_bestPen 31 = .ok (.invokestatic 107, 3) := by decide +kernel
theorem dX7_bestPen_34 : decode cX7_bestPen 34 = .ok (.bipush (-9), 2) := by decide +kernel
theorem dX7_bestPen_36 : decode cX7_bestPen 36 = .ok (.istore_n 2, 1) := by decide +kernel
theorem dX7_bestPen_37 : decode cX7_bestPen 37 = .ok (.iconst 0, 1) := by decide +kernel
theorem dX7_bestPen_38 : decode cX7_bestPen 38 = .ok (.istore_n 3, 1) := by decide +kernel
theorem dX7_bestPen_39 : decode cX7_bestPen 39 = .ok (.iconst 0, 1) := by decide +kernel
theorem dX7_bestPen_40 : decode cX7_bestPen 40 = .ok (.istore 4, 2) := by decide +kernel
theorem dX7_bestPen_42 : decode cX7_bestPen 42 = .ok (.iload 4, 2) := by decide +kernel
theorem dX7_bestPen_44 : decode cX7_bestPen 44 = .ok (.iconst 3, 1) := by decide +kernel
theorem dX7_bestPen_45 : decode cX7_bestPen 45 = .ok (.if_icmp .gt 82, 3) := by decide +kernel
theorem dX7_bestPen_48 : decode cX7_bestPen 48 = .ok (.iconst 0, 1) := by decide +kernel
theorem dX7_bestPen_49 : decode cX7_bestPen 49 = .ok (.istore 5, 2) := by decide +kernel
theorem dX7_bestPen_51 : decode cX7_bestPen 51 = .ok (.iload 5, 2) := by decide +kernel
theorem dX7_bestPen_53 : decode cX7_bestPen 53 = .ok (.bipush 8, 2) := by decide +kernel
theorem dX7_bestPen_55 : decode cX7_bestPen 55 = .ok (.if_icmp .gt 66, 3) := by decide +kernel
theorem dX7_bestPen_58 : decode cX7_bestPen 58 = .ok (.aload_n 0, 1) := by decide +kernel
theorem dX7_bestPen_59 : decode cX7_bestPen 59 = .ok (.getfield 19, 3) := by decide +kernel
theorem dX7_bestPen_62 : decode cX7_bestPen 62 = .ok (.iload_n 1, 1) := by decide +kernel
theorem dX7_bestPen_63 : decode cX7_bestPen 63 = .ok (.iload 4, 2) := by decide +kernel
theorem dX7_bestPen_65 : decode cX7_bestPen 65 = .ok (.iload 5, 2) := by decide +kernel
theorem dX7_bestPen_67 : decode cX7_bestPen 67 = .ok (.aload_n 0, 1) := by decide +kernel
theorem dX7_bestPen_68 : decode cX7_bestPen 68 = .ok (.getfield 16, 3) := by decide +kernel
theorem dX7_bestPen_71 : decode cX7_bestPen 71 = .ok (.iconst 4, 1) := by decide +kernel
theorem dX7_bestPen_72 : decode cX7_bestPen 72 = .ok (.iconst 3, 1) := by decide +kernel
theorem dX7_bestPen_73 : decode cX7_bestPen 73 = .ok (.iload_n 1, 1) := by decide +kernel
theorem dX7_bestPen_74 : decode cX7_bestPen 74 = .ok (.imul, 1) := by decide +kernel
theorem dX7_bestPen_75 : decode cX7_bestPen 75 = .ok (.iadd, 1) := by decide +kernel
theorem dX7_bestPen_76 : decode cX7_bestPen 76 = .ok (.iconst 2, 1) := by decide +kernel
theorem dX7_bestPen_77 : decode cX7_bestPen 77 = .ok (.iadd, 1) := by decide +kernel
theorem dX7_bestPen_78 : decode cX7_bestPen 78 = .ok (.iaload, 1) := by decide +kernel
theorem dX7_bestPen_79 : decode cX7_bestPen 79 = .ok (.invokestatic 111, 3) := by decide +kernel
theorem dX7_bestPen_82 : decode cX7_bestPen 82 = .ok (.aload_n 0, 1) := by decide +kernel
theorem dX7_bestPen_83 : decode cX7_bestPen 83 = .ok (.getfield 19, 3) := by decide +kernel
theorem dX7_bestPen_86 : decode cX7_bestPen 86 = .ok (.invokestatic 175, 3) := by decide +kernel
theorem dX7_bestPen_89 : decode cX7_bestPen 89 = .ok (.istore 6, 2) := by decide +kernel
theorem dX7_bestPen_91 : decode cX7_bestPen 91 = .ok (.iload_n 2, 1) := by decide +kernel
theorem dX7_bestPen_92 : decode cX7_bestPen 92 = .ok (.bipush (-9), 2) := by decide +kernel
theorem dX7_bestPen_94 : decode cX7_bestPen 94 = .ok (.if_icmp .eq 9, 3) := by decide +kernel
theorem dX7_bestPen_97 : decode cX7_bestPen 97 = .ok (.iload 6, 2) := by decide +kernel
theorem dX7_bestPen_99 : decode cX7_bestPen 99 = .ok (.iload_n 3, 1) := by decide +kernel
theorem dX7_bestPen_100 : decode cX7_bestPen 100 = .ok (.if_icmp .ge 15, 3) := by decide +kernel
theorem dX7_bestPen_103 : decode cX7_bestPen 103 = .ok (.bipush 10, 2) := by decide +kernel
theorem dX7_bestPen_105 : decode cX7_bestPen 105 = .ok (.iload 4, 2) := by decide +kernel
theorem dX7_bestPen_107 : decode cX7_bestPen 107 = .ok (.imul, 1) := by decide +kernel
theorem dX7_bestPen_108 : decode cX7_bestPen 108 = .ok (.iload 5, 2) := by decide +kernel
theorem dX7_bestPen_110 : decode cX7_bestPen 110 = .ok (.iadd, 1) := by decide +kernel
theorem dX7_bestPen_111 : decode cX7_bestPen 111 = .ok (.istore_n 2, 1) := by decide +kernel
theorem dX7_bestPen_112 : decode cX7_bestPen 112 = .ok (.iload 6, 2) := by decide +kernel
theorem dX7_bestPen_114 : decode cX7_bestPen 114 = .ok (.istore_n 3, 1) := by decide +kernel
theorem dX7_bestPen_115 : decode cX7_bestPen 115 = .ok (.iinc 5 1, 3) := by decide +kernel
theorem dX7_bestPen_118 : decode cX7_bestPen 118 = .ok (.goto (-67), 3) := by decide +kernel
theorem dX7_bestPen_121 : decode cX7_bestPen 121 = .ok (.iinc 4 1, 3) := by decide +kernel
theorem dX7_bestPen_124 : decode cX7_bestPen 124 = .ok (.goto (-82), 3) := by decide +kernel
theorem dX7_bestPen_127 : decode cX7_bestPen 127 = .ok (.iload_n 2, 1) := by decide +kernel
theorem dX7_bestPen_128 : decode cX7_bestPen 128 = .ok (.ireturn, 1) := by decide +kernel
def LX7_bestPen_51 {ρ : Type} (T : zT) (x17 : Nat) (x18 : Int32) (x19 : Int32) (K0 : Int32 → Int32 → zH → Option ρ) : Nat → Int32 → Int32 → Int32 → zH → Option ρ
  | 0, _, _, _, _ => none
  | k + 1, x20, x21, x22, h23 => if 8 < x22 then (K0 x20 x21 h23) else (zJ (fun (x24 : Int32) (x25 : Int32) (h26 : zH) => LX7_bestPen_51 T x17 x18 x19 K0 k x24 x25 (x22 + 1) h26) (fun J27 => zJ (fun (x28 : Int32) (h29 : zH) => J27 ((10 * x19) + x22) x28 h29) (fun J30 => (zgr h23 x17 7 6).bind fun x31 => (zgr h23 x17 7 5).bind fun x32 => (zai T h23 x32 ((4 + (3 * x18)) + 2)).bind fun x33 => (FX7_penOn T x31 x18 x19 x22 x33 h23).bind fun h35 => (zgr h35 x17 7 6).bind fun x36 => (FX7_doubts T x36 h35).bind fun x38 => if x20 = (-9 : Int32) then (J30 x38 h35) else (if x21 ≤ x38 then (J27 x20 x21 h35) else (J30 x38 h35)))))
set_option maxHeartbeats 4000000 in
set_option maxRecDepth 100000 in
theorem LX7_bestPen_51_ok {X : zX} (C : zC X cX7_bestPen 7 RX7 "bestPen" (some .int) 5 114) {Z : State → Prop} {al : Bool} {hi : Nat} {ρ : Type} {r9 : ρ} {x17 : Nat} {x18 : Int32} {x19 : Int32} {K0 : Int32 → Int32 → zH → Option ρ} (hK0 : ∀ (y2 : Int32) (y3 : Int32) (g9 : zH), K0 y2 y3 g9 = some r9 → zW X 7 Z 0 0 al hi g9 121 [(0, .ref x17), (1, .int x18), (2, .int y2), (3, .int y3), (4, .int x19)] []) : ∀ (k : Nat) (x20 : Int32) (x21 : Int32) (x22 : Int32) (h23 : zH), LX7_bestPen_51 (xT X) x17 x18 x19 K0 k x20 x21 x22 h23 = some r9 → zW X 7 Z 0 0 al hi h23 51 [(0, .ref x17), (1, .int x18), (2, .int x20), (3, .int x21), (4, .int x19), (5, .int x22)] [] := by
  intro k
  induction k with
  | zero =>
    intro x20 x21 x22 h23 hf
    have hf : none = some r9 := hf
    cases hf
  | succ k ih =>
    intro x20 x21 x22 h23 hf
    rw [LX7_bestPen_51.eq_2] at hf
    refine z_iload C dX7_bestPen_51 5 rfl ?_
    refine z_bipush C (v := 8) dX7_bestPen_53 (by decide) ?_
    refine z_icmp_gt (tgt := 121) C dX7_bestPen_55 (by decide) hf (fun hf => ?_) (fun hf => ?_)
    · refine z_sub [0, 1, 2, 3, 4] rfl ?_
      exact hK0 _ _ _ hf
    · refine z_join (P := fun J => ∀ (x24 : Int32) (x25 : Int32) (h26 : zH), J x24 x25 h26 = some r9 → zW X 7 Z 0 0 al hi h26 115 [(0, .ref x17), (1, .int x18), (2, .int x24), (3, .int x25), (4, .int x19), (5, .int x22)] []) hf ?_ ?_
      · intro x24 x25 h26 hf
        refine z_iinc C dX7_bestPen_115 (k := 5) (d := 1) rfl (by decide) (by decide) (lv' := [(5, .int (x22 + 1)), (0, .ref x17), (1, .int x18), (2, .int x24), (3, .int x25), (4, .int x19)]) rfl ?_
        refine z_goto (tgt := 51) C dX7_bestPen_118 (by decide) ?_
        refine z_sub [1, 2, 3, 4, 5, 0] rfl ?_
        exact ih _ _ _ _ hf
      · intro J27 kJ27 hf
        refine z_join (P := fun J => ∀ (x28 : Int32) (h29 : zH), J x28 h29 = some r9 → zW X 7 Z 0 0 al hi h29 103 [(0, .ref x17), (1, .int x18), (4, .int x19), (5, .int x22), (6, .int x28)] []) hf ?_ ?_
        · intro x28 h29 hf
          refine z_bipush C (v := 10) dX7_bestPen_103 (by decide) ?_
          refine z_iload C dX7_bestPen_105 2 rfl ?_
          refine z_imul C dX7_bestPen_107 ?_
          refine z_iload C dX7_bestPen_108 3 rfl ?_
          refine z_iadd C dX7_bestPen_110 ?_
          refine z_istore_n C dX7_bestPen_111 rfl (by decide) (lv' := [(2, .int ((10 * x19) + x22)), (0, .ref x17), (1, .int x18), (4, .int x19), (5, .int x22), (6, .int x28)]) rfl ?_
          refine z_iload C dX7_bestPen_112 5 rfl ?_
          refine z_istore_n C dX7_bestPen_114 rfl (by decide) (lv' := [(3, .int x28), (2, .int ((10 * x19) + x22)), (0, .ref x17), (1, .int x18), (4, .int x19), (5, .int x22), (6, .int x28)]) rfl ?_
          refine z_sub [2, 3, 1, 0, 4, 5] rfl ?_
          exact kJ27 _ _ _ hf
        · intro J30 kJ30 hf
          refine z_aload_n C dX7_bestPen_58 0 rfl rfl ?_
          refine z_getR C fl_X7_19 dX7_bestPen_59 hf (fun x31 hf => ?_)
          refine z_iload_n C dX7_bestPen_62 1 rfl rfl ?_
          refine z_iload C dX7_bestPen_63 4 rfl ?_
          refine z_iload C dX7_bestPen_65 5 rfl ?_
          refine z_aload_n C dX7_bestPen_67 0 rfl rfl ?_
          refine z_getR C fl_X7_16 dX7_bestPen_68 hf (fun x32 hf => ?_)
          refine z_iconst C (v := 4) dX7_bestPen_71 (by decide) ?_
          refine z_iconst C (v := 3) dX7_bestPen_72 (by decide) ?_
          refine z_iload_n C dX7_bestPen_73 1 rfl rfl ?_
          refine z_imul C dX7_bestPen_74 ?_
          refine z_iadd C dX7_bestPen_75 ?_
          refine z_iconst C (v := 2) dX7_bestPen_76 (by decide) ?_
          refine z_iadd C dX7_bestPen_77 ?_
          refine z_iaload C dX7_bestPen_78 hf (fun x33 hf => ?_)
          obtain ⟨h35, g34, hf⟩ := zbind hf
          refine z_callS (kc' := 0) (ks' := 0) C (MX7_penOn (xl X) (xD X) (xT X) (xlo X) al hi g34) cw_X7_111 ys_X7_penOn dX7_bestPen_79 rfl (by decide) ⟨rfl, rfl⟩ (Nat.le_of_ble_eq_true rfl) (st := []) rfl ?_
          refine z_aload_n C dX7_bestPen_82 0 rfl rfl ?_
          refine z_getR C fl_X7_19 dX7_bestPen_83 hf (fun x36 hf => ?_)
          obtain ⟨x38, g37, hf⟩ := zbind hf
          refine z_callS (kc' := 0) (ks' := 0) C (MX7_doubts (xl X) (xD X) (xT X) (xlo X) al hi g37) cw_X7_175 ys_X7_doubts dX7_bestPen_86 rfl (by decide) ⟨rfl, rfl⟩ (Nat.le_of_ble_eq_true rfl) (st := []) rfl ?_
          refine z_istore C dX7_bestPen_89 (by decide) (lv' := [(6, .int x38), (0, .ref x17), (1, .int x18), (2, .int x20), (3, .int x21), (4, .int x19), (5, .int x22)]) rfl ?_
          refine z_iload_n C dX7_bestPen_91 3 rfl rfl ?_
          refine z_bipush C (v := (-9 : Int32)) dX7_bestPen_92 (by decide) ?_
          refine z_icmp_eq (tgt := 103) C dX7_bestPen_94 (by decide) hf (fun hf => ?_) (fun hf => ?_)
          · refine z_sub [1, 2, 5, 6, 0] rfl ?_
            exact kJ30 _ _ hf
          · refine z_iload C dX7_bestPen_97 0 rfl ?_
            refine z_iload_n C dX7_bestPen_99 4 rfl rfl ?_
            refine z_icmp_ge (tgt := 115) C dX7_bestPen_100 (by decide) hf (fun hf => ?_) (fun hf => ?_)
            · refine z_sub [1, 2, 3, 4, 5, 6] rfl ?_
              exact kJ27 _ _ _ hf
            · refine z_sub [1, 2, 5, 6, 0] rfl ?_
              exact kJ30 _ _ hf
def LX7_bestPen_42 {ρ : Type} (T : zT) (x11 : Nat) (x12 : Int32) (K0 : Int32 → zH → Option ρ) : Nat → Int32 → Int32 → Int32 → zH → Option ρ
  | 0, _, _, _, _ => none
  | k + 1, x13, x14, x15, h16 => if 3 < x15 then (K0 x13 h16) else (LX7_bestPen_51 T x11 x12 x15 (fun (x39 : Int32) (x40 : Int32) (h41 : zH) => LX7_bestPen_42 T x11 x12 K0 k x39 x40 (x15 + 1) h41) FUEL x13 x14 0 h16)
set_option maxHeartbeats 4000000 in
set_option maxRecDepth 100000 in
theorem LX7_bestPen_42_ok {X : zX} (C : zC X cX7_bestPen 7 RX7 "bestPen" (some .int) 5 114) {Z : State → Prop} {al : Bool} {hi : Nat} {ρ : Type} {r9 : ρ} {x11 : Nat} {x12 : Int32} {K0 : Int32 → zH → Option ρ} (hK0 : ∀ (y2 : Int32) (g9 : zH), K0 y2 g9 = some r9 → zW X 7 Z 0 0 al hi g9 127 [(2, .int y2)] []) : ∀ (k : Nat) (x13 : Int32) (x14 : Int32) (x15 : Int32) (h16 : zH), LX7_bestPen_42 (xT X) x11 x12 K0 k x13 x14 x15 h16 = some r9 → zW X 7 Z 0 0 al hi h16 42 [(0, .ref x11), (1, .int x12), (2, .int x13), (3, .int x14), (4, .int x15)] [] := by
  intro k
  induction k with
  | zero =>
    intro x13 x14 x15 h16 hf
    have hf : none = some r9 := hf
    cases hf
  | succ k ih =>
    intro x13 x14 x15 h16 hf
    rw [LX7_bestPen_42.eq_2] at hf
    refine z_iload C dX7_bestPen_42 4 rfl ?_
    refine z_iconst C (v := 3) dX7_bestPen_44 (by decide) ?_
    refine z_icmp_gt (tgt := 127) C dX7_bestPen_45 (by decide) hf (fun hf => ?_) (fun hf => ?_)
    · refine z_sub [2] rfl ?_
      exact hK0 _ _ hf
    · refine z_iconst C (v := 0) dX7_bestPen_48 (by decide) ?_
      refine z_istore C dX7_bestPen_49 (by decide) (lv' := [(5, .int 0), (0, .ref x11), (1, .int x12), (2, .int x13), (3, .int x14), (4, .int x15)]) rfl ?_
      refine z_sub [1, 2, 3, 4, 5, 0] rfl ?_
      refine LX7_bestPen_51_ok C ?_ FUEL _ _ _ _ hf
      · intro x39 x40 h41 hf
        refine z_iinc C dX7_bestPen_121 (k := 4) (d := 1) rfl (by decide) (by decide) (lv' := [(4, .int (x15 + 1)), (0, .ref x11), (1, .int x12), (2, .int x39), (3, .int x40)]) rfl ?_
        refine z_goto (tgt := 42) C dX7_bestPen_124 (by decide) ?_
        refine z_sub [1, 2, 3, 4, 0] rfl ?_
        exact ih _ _ _ _ hf
def FX7_bestPen (T : zT) (a0 : Nat) (p0 : Int32) (h : zH) : Option (Int32 × zH) := (zo h a0 7).bind fun _ => zJ (fun (x1 : Int32) (x2 : Nat) => zb2 (FX7_refused T x2 x1 h) fun x5 h6 => if x5 = 0 then ((zgr h6 a0 7 5).bind fun x7 => (zgr h6 a0 7 6).bind fun x8 => (FX7_copyPage T x7 0 x8 0 h6).bind fun h10 => LX7_bestPen_42 T a0 p0 (fun (x42 : Int32) (h43 : zH) => some (x42, h43)) FUEL (-9 : Int32) 0 0 h10) else (some (0, h6))) (fun J3 => (FX7_isLetter T p0 h).bind fun x45 => if x45 = 0 then (J3 1 a0) else (J3 0 a0))
set_option maxHeartbeats 4000000 in
set_option maxRecDepth 100000 in
theorem BX7_bestPen {X : zX} (C : zC X cX7_bestPen 7 RX7 "bestPen" (some .int) 5 114) {al : Bool} {hi : Nat} {h : zH} {a0 : Nat} {p0 : Int32} {r9 : (Int32 × zH)} (hf : FX7_bestPen (xT X) a0 p0 h = some r9) : zW X 7 (zZ X al (some (.int r9.1), hi, r9.2)) 0 0 al hi h 0 [(0, .ref a0), (1, .int p0)] [] := by
  unfold FX7_bestPen at hf
  obtain ⟨_, _, hf⟩ := zbind hf
  refine z_join (P := fun J => ∀ (x1 : Int32) (x2 : Nat), J x1 x2 = some r9 → zW X 7 (zZ X al (some (.int r9.1), hi, r9.2)) 0 0 al hi h 13 [(0, .ref a0), (1, .int p0)] [.int x1, .ref x2]) hf ?_ ?_
  · intro x1 x2 hf
    obtain ⟨x5, h6, g4, hf⟩ := zbind2 hf
    refine z_callV (kc' := 0) (ks' := 0) C (MX7_refused (xl X) (xD X) (xT X) (xlo X) al hi g4) (OX7_refused g4) rfl cw_X7_120 yv_X7_refused dX7_bestPen_13 rfl (by decide) ⟨rfl, rfl⟩ (Nat.le_of_ble_eq_true rfl) (st := []) rfl ?_
    refine z_if_eq (tgt := 21) C dX7_bestPen_16 (by decide) hf (fun hf => ?_) (fun hf => ?_)
    · refine z_aload_n C dX7_bestPen_21 0 rfl rfl ?_
      refine z_getR C fl_X7_16 dX7_bestPen_22 hf (fun x7 hf => ?_)
      refine z_iconst C (v := 0) dX7_bestPen_25 (by decide) ?_
      refine z_aload_n C dX7_bestPen_26 0 rfl rfl ?_
      refine z_getR C fl_X7_19 dX7_bestPen_27 hf (fun x8 hf => ?_)
      refine z_iconst C (v := 0) dX7_bestPen_30 (by decide) ?_
      obtain ⟨h10, g9, hf⟩ := zbind hf
      refine z_callS (kc' := 0) (ks' := 0) C (MX7_copyPage (xl X) (xD X) (xT X) (xlo X) al hi g9) cw_X7_107 ys_X7_copyPage dX7_bestPen_31 rfl (by decide) ⟨rfl, rfl⟩ (Nat.le_of_ble_eq_true rfl) (st := []) rfl ?_
      refine z_bipush C (v := (-9 : Int32)) dX7_bestPen_34 (by decide) ?_
      refine z_istore_n C dX7_bestPen_36 rfl (by decide) (lv' := [(2, .int (-9 : Int32)), (0, .ref a0), (1, .int p0)]) rfl ?_
      refine z_iconst C (v := 0) dX7_bestPen_37 (by decide) ?_
      refine z_istore_n C dX7_bestPen_38 rfl (by decide) (lv' := [(3, .int 0), (2, .int (-9 : Int32)), (0, .ref a0), (1, .int p0)]) rfl ?_
      refine z_iconst C (v := 0) dX7_bestPen_39 (by decide) ?_
      refine z_istore C dX7_bestPen_40 (by decide) (lv' := [(4, .int 0), (3, .int 0), (2, .int (-9 : Int32)), (0, .ref a0), (1, .int p0)]) rfl ?_
      refine z_sub [3, 4, 2, 1, 0] rfl ?_
      refine LX7_bestPen_42_ok C ?_ FUEL _ _ _ _ hf
      · intro x42 h43 hf
        refine z_iload_n C dX7_bestPen_127 0 rfl rfl ?_
        exact z_ireturn C dX7_bestPen_128 (by cases hf; rfl)
    · refine z_iconst C (v := 0) dX7_bestPen_19 (by decide) ?_
      exact z_ireturn C dX7_bestPen_20 (by cases hf; rfl)
  · intro J3 kJ3 hf
    refine z_aload_n C dX7_bestPen_0 0 rfl rfl ?_
    refine z_iload_n C dX7_bestPen_1 1 rfl rfl ?_
    obtain ⟨x45, g44, hf⟩ := zbind hf
    refine z_callS (kc' := 0) (ks' := 0) C (MX7_isLetter (xl X) (xD X) (xT X) (xlo X) al hi g44) cw_X7_182 ys_X7_isLetter dX7_bestPen_2 rfl (by decide) ⟨rfl, rfl⟩ (Nat.le_of_ble_eq_true rfl) (st := [.ref a0]) rfl ?_
    refine z_if_eq (tgt := 12) C dX7_bestPen_5 (by decide) hf (fun hf => ?_) (fun hf => ?_)
    · refine z_iconst C (v := 1) dX7_bestPen_12 (by decide) ?_
      exact kJ3 _ _ hf
    · refine z_iconst C (v := 0) dX7_bestPen_8 (by decide) ?_
      refine z_goto (tgt := 13) C dX7_bestPen_9 (by decide) ?_
      exact kJ3 _ _ hf
theorem MX7_bestPen (l : Launch) (D : va_G) (T : zT) (lo : Nat) (al : Bool) (hi : Nat) {h : zH} {a0 : Nat} {p0 : Int32} {v9 : Int32} {h9 : zH} (hf : FX7_bestPen T a0 p0 h = some (v9, h9)) : zM l yX7_bestPen (.code yX7_bestPen cX7_bestPen 7 (some .int) :: TW) ({ frames := 5, cells := 0, slots := 0, locals := 114 } : Room) D T lo al [.ref a0, .int p0] hi h (some (.int v9), hi, h9) :=
  z_enter (own := RX7) (nm := "bestPen") (lv := [(0, .ref a0), (1, .int p0)]) (by decide +kernel) rfl rfl (Nat.le_of_ble_eq_true rfl) rfl (fun _ _ _ _ _ _ _ _ C => BX7_bestPen C hf)
theorem OX7_bestPen {T : zT} {h : zH} {a0 : Nat} {p0 : Int32} {r9 : (Int32 × zH)} (hf : FX7_bestPen T a0 p0 h = some r9) : ∃ fs, h a0 = some (.inr (7, fs)) := by
  obtain ⟨_, h1, _⟩ := zbind hf
  exact zo_obj h1
theorem dX7_greatestMargin_0 : decode cX7_greatestMargin 0 = .ok (.aload_n 0, 1) := by decide +kernel
theorem dX7_greatestMargin_1 : decode cX7_greatestMargin 1 = .ok (.iconst 0, 1) := by decide +kernel
theorem dX7_greatestMargin_2 : decode cX7_greatestMargin 2 = .ok (.putfield 54, 3) := by decide +kernel
theorem dX7_greatestMargin_5 : decode cX7_greatestMargin 5 = .ok (.bipush 9, 2) := by decide +kernel
theorem dX7_greatestMargin_7 : decode cX7_greatestMargin 7 = .ok (.istore_n 1, 1) := by decide +kernel
theorem dX7_greatestMargin_8 : decode cX7_greatestMargin 8 = .ok (.iload_n 1, 1) := by decide +kernel
theorem dX7_greatestMargin_9 : decode cX7_greatestMargin 9 = .ok (.ifCond .lt 22, 3) := by decide +kernel
theorem dX7_greatestMargin_12 : decode cX7_greatestMargin 12 = .ok (.aload_n 0, 1) := by decide +kernel
theorem dX7_greatestMargin_13 : decode cX7_greatestMargin 13 = .ok (.getfield 16, 3) := by decide +kernel
theorem dX7_greatestMargin_16 : decode cX7_greatestMargin 16 = .ok (.iload_n 1, 1) := by decide +kernel
theorem dX7_greatestMargin_17 : decode cX7_greatestMargin 17 = .ok (.invokestatic 84, 3) := by decide +kernel
theorem dX7_greatestMargin_20 : decode cX7_greatestMargin 20 = .ok (.ifCond .ne 5, 3) := by decide +kernel
theorem dX7_greatestMargin_23 : decode cX7_greatestMargin 23 = .ok (.iload_n 1, 1) := by decide +kernel
theorem dX7_greatestMargin_24 : decode cX7_greatestMargin 24 = .ok (.ireturn, 1) := by decide +kernel
theorem dX7_greatestMargin_25 : decode cX7_greatestMargin 25 = .ok (.iinc 1 (-1), 3) := by decide +kernel
theorem dX7_greatestMargin_28 : decode cX7_greatestMargin 28 = .ok (.goto (-20), 3) := by decide +kernel
theorem dX7_greatestMargin_31 : decode cX7_greatestMargin 31 = .ok (.bipush (-9), 2) := by decide +kernel
theorem dX7_greatestMargin_33 : decode cX7_greatestMargin 33 = .ok (.ireturn, 1) := by decide +kernel
def LX7_greatestMargin_8 {ρ : Type} (T : zT) (h4 : zH) (x2 : Nat) (K0 : Int32 → Option ρ) (K1 : Unit → Option ρ) : Nat → Int32 → Option ρ
  | 0, _ => none
  | k + 1, x3 => if x3 < 0 then (K1 ()) else ((zgr h4 x2 7 5).bind fun x5 => (FX7_doubtsBy T x5 x3 h4).bind fun x7 => if x7 = 0 then (K0 x3) else (LX7_greatestMargin_8 T h4 x2 K0 K1 k (x3 + (-1 : Int32))))
set_option maxHeartbeats 4000000 in
set_option maxRecDepth 100000 in
theorem LX7_greatestMargin_8_ok {X : zX} (C : zC X cX7_greatestMargin 2 RX7 "greatestMargin" (some .int) 4 94) {Z : State → Prop} {al : Bool} {hi : Nat} {ρ : Type} {r9 : ρ} {h4 : zH} {x2 : Nat} {K0 : Int32 → Option ρ} {K1 : Unit → Option ρ} (hK0 : ∀ (y1 : Int32), K0 y1 = some r9 → zW X 2 Z 0 0 al hi h4 23 [(1, .int y1)] []) (hK1 : ∀ (u9 : Unit), K1 u9 = some r9 → zW X 2 Z 0 0 al hi h4 31 [] []) : ∀ (k : Nat) (x3 : Int32), LX7_greatestMargin_8 (xT X) h4 x2 K0 K1 k x3 = some r9 → zW X 2 Z 0 0 al hi h4 8 [(0, .ref x2), (1, .int x3)] [] := by
  intro k
  induction k with
  | zero =>
    intro x3 hf
    have hf : none = some r9 := hf
    cases hf
  | succ k ih =>
    intro x3 hf
    rw [LX7_greatestMargin_8.eq_2] at hf
    refine z_iload_n C dX7_greatestMargin_8 1 rfl rfl ?_
    refine z_if_lt (tgt := 31) C dX7_greatestMargin_9 (by decide) hf (fun hf => ?_) (fun hf => ?_)
    · refine z_sub [] rfl ?_
      exact hK1 _ hf
    · refine z_aload_n C dX7_greatestMargin_12 0 rfl rfl ?_
      refine z_getR C fl_X7_16 dX7_greatestMargin_13 hf (fun x5 hf => ?_)
      refine z_iload_n C dX7_greatestMargin_16 1 rfl rfl ?_
      obtain ⟨x7, g6, hf⟩ := zbind hf
      refine z_callS (kc' := 0) (ks' := 0) C (MX7_doubtsBy (xl X) (xD X) (xT X) (xlo X) al hi g6) cw_X7_84 ys_X7_doubtsBy dX7_greatestMargin_17 rfl (by decide) ⟨rfl, rfl⟩ (Nat.le_of_ble_eq_true rfl) (st := []) rfl ?_
      refine z_if_ne (tgt := 25) C dX7_greatestMargin_20 (by decide) hf (fun hf => ?_) (fun hf => ?_)
      · refine z_iinc C dX7_greatestMargin_25 (k := 1) (d := (-1 : Int32)) rfl (by decide) (by decide) (lv' := [(1, .int (x3 + (-1 : Int32))), (0, .ref x2)]) rfl ?_
        refine z_goto (tgt := 8) C dX7_greatestMargin_28 (by decide) ?_
        refine z_sub [1, 0] rfl ?_
        exact ih _ hf
      · refine z_sub [1] rfl ?_
        exact hK0 _ hf
def FX7_greatestMargin (T : zT) (a0 : Nat) (h : zH) : Option (Int32 × zH) := (zo h a0 7).bind fun _ => (zpv h a0 7 0 (.int 0)).bind fun h1 => LX7_greatestMargin_8 T h1 a0 (fun (x8 : Int32) => some (x8, h1)) (fun (u9 : Unit) => some ((-9 : Int32), h1)) FUEL 9
set_option maxHeartbeats 4000000 in
set_option maxRecDepth 100000 in
theorem BX7_greatestMargin {X : zX} (C : zC X cX7_greatestMargin 2 RX7 "greatestMargin" (some .int) 4 94) {al : Bool} {hi : Nat} {h : zH} {a0 : Nat} {r9 : (Int32 × zH)} (hf : FX7_greatestMargin (xT X) a0 h = some r9) : zW X 2 (zZ X al (some (.int r9.1), hi, r9.2)) 0 0 al hi h 0 [(0, .ref a0)] [] := by
  unfold FX7_greatestMargin at hf
  obtain ⟨_, _, hf⟩ := zbind hf
  refine z_aload_n C dX7_greatestMargin_0 0 rfl rfl ?_
  refine z_iconst C (v := 0) dX7_greatestMargin_1 (by decide) ?_
  refine z_put C fl_X7_54 dX7_greatestMargin_2 rfl rfl hf (fun h1 hf => ?_)
  refine z_bipush C (v := 9) dX7_greatestMargin_5 (by decide) ?_
  refine z_istore_n C dX7_greatestMargin_7 rfl (by decide) (lv' := [(1, .int 9), (0, .ref a0)]) rfl ?_
  refine z_sub [1, 0] rfl ?_
  refine LX7_greatestMargin_8_ok C ?_ ?_ FUEL _ hf
  · intro x8 hf
    refine z_iload_n C dX7_greatestMargin_23 0 rfl rfl ?_
    exact z_ireturn C dX7_greatestMargin_24 (by cases hf; rfl)
  · intro u9 hf
    refine z_bipush C (v := (-9 : Int32)) dX7_greatestMargin_31 (by decide) ?_
    exact z_ireturn C dX7_greatestMargin_33 (by cases hf; rfl)
theorem MX7_greatestMargin (l : Launch) (D : va_G) (T : zT) (lo : Nat) (al : Bool) (hi : Nat) {h : zH} {a0 : Nat} {v9 : Int32} {h9 : zH} (hf : FX7_greatestMargin T a0 h = some (v9, h9)) : zM l yX7_greatestMargin (.code yX7_greatestMargin cX7_greatestMargin 2 (some .int) :: TW) ({ frames := 4, cells := 0, slots := 0, locals := 94 } : Room) D T lo al [.ref a0] hi h (some (.int v9), hi, h9) :=
  z_enter (own := RX7) (nm := "greatestMargin") (lv := [(0, .ref a0)]) (by decide +kernel) rfl rfl (Nat.le_of_ble_eq_true rfl) rfl (fun _ _ _ _ _ _ _ _ C => BX7_greatestMargin C hf)
theorem OX7_greatestMargin {T : zT} {h : zH} {a0 : Nat} {r9 : (Int32 × zH)} (hf : FX7_greatestMargin T a0 h = some r9) : ∃ fs, h a0 = some (.inr (7, fs)) := by
  obtain ⟨_, h1, _⟩ := zbind hf
  exact zo_obj h1
theorem dX7_bestDecision_0 : decode cX7_bestDecision 0 = .ok (.aload_n 0, 1) := by decide +kernel
theorem dX7_bestDecision_1 : decode cX7_bestDecision 1 = .ok (.iload_n 1, 1) := by decide +kernel
theorem dX7_bestDecision_2 : decode cX7_bestDecision 2 = .ok (.invokestatic 182, 3) := by decide +kernel
theorem dX7_bestDecision_5 : decode cX7_bestDecision 5 = .ok (.ifCond .eq 7, 3) := by decide +kernel
theorem dX7_bestDecision_8 : decode cX7_bestDecision 8 = .ok (.iconst 0, 1) := by decide +kernel
theorem dX7_bestDecision_9 : decode cX7_bestDecision 9 = .ok (.goto 4, 3) := by decide +kernel
theorem dX7_bestDecision_12 : decode cX7_bestDecision 12 = .ok (.iconst 1, 1) := by decide +kernel
theorem dX7_bestDecision_13 : decode cX7_bestDecision 13 = .ok (.invokevirtual 120, 3) := by decide +kernel
theorem dX7_bestDecision_16 : decode cX7_bestDecision 16 = .ok (.ifCond .eq 5, 3) := by decide +kernel
theorem dX7_bestDecision_19 : decode cX7_bestDecision 19 = .ok (.iconst 0, 1) := by decide +kernel
theorem dX7_bestDecision_20 : decode cX7_bestDecision 20 = .ok (.ireturn, 1) := by decide +kernel
theorem dX7_bestDecision_21 : decode cX7_bestDecision 21 = .ok (.aload_n 0, 1) := by decide +kernel
theorem dX7_bestDecision_22 : decode cX7_bestDecision 22 = .ok (.getfield 16, 3) := by decide +kernel
theorem dX7_bestDecision_25 : decode cX7_bestDecision 25 = .ok (.iconst 0, 1) := by decide +kernel
theorem dX7_bestDecision_26 : decode cX7_bestDecision 26 = .ok (.aload_n 0, 1) := by decide +kernel
theorem dX7_bestDecision_27 : decode cX7_bestDecision 27 = .ok (.getfield 19, 3) := by decide +kernel
theorem dX7_bestDecision_30 : decode cX7_bestDecision 30 = .ok (.iconst 0, 1) := by decide +kernel
theorem dX7_bestDecision_31 : decode cX7_bestDecision 31 = .ok (.invokestatic 107, 3) := by decide +kernel
theorem dX7_bestDecision_34 : decode cX7_bestDecision 34 = .ok (.bipush (-9), 2) := by decide +kernel
theorem dX7_bestDecision_36 : decode cX7_bestDecision 36 = .ok (.istore_n 2, 1) := by decide +kernel
theorem dX7_bestDecision_37 : decode cX7_bestDecision 37 = .ok (.iconst 0, 1) := by decide +kernel
theorem dX7_bestDecision_38 : decode cX7_bestDecision 38 = .ok (.istore_n 3, 1) := by decide +kernel
theorem dX7_bestDecision_39 : decode cX7_bestDecision 39 = .ok (.iconst 0, 1) := by decide +kernel
theorem dX7_bestDecision_40 : decode cX7_bestDecision 40 = .ok (.istore 4, 2) := by decide +kernel
theorem dX7_bestDecision_42 : decode cX7_bestDecision 42 = .ok (.iload 4, 2) := by decide +kernel
theorem dX7_bestDecision_44 : decode cX7_bestDecision 44 = .ok (.bipush 81, 2) := by decide +kernel
theorem dX7_bestDecision_46 : decode cX7_bestDecision 46 = .ok (.if_icmp .ge 150, 3) := by decide +kernel
theorem dX7_bestDecision_49 : decode cX7_bestDecision 49 = .ok (.iload 4, 2) := by decide +kernel
theorem dX7_bestDecision_51 : decode cX7_bestDecision 51 = .ok (.bipush 9, 2) := by decide +kernel
theorem dX7_bestDecision_53 : decode cX7_bestDecision 53 = .ok (.idiv, 1) := by decide +kernel
theorem dX7_bestDecision_54 : decode cX7_bestDecision 54 = .ok (.istore 5, 2) := by decide +kernel
theorem dX7_bestDecision_56 : decode cX7_bestDecision 56 = .ok (.iload 4, 2) := by decide +kernel
theorem dX7_bestDecision_58 : decode cX7_bestDecision 58 = .ok (.bipush 9, 2) := by decide +kernel
theorem dX7_bestDecision_60 : decode cX7_bestDecision 60 = .ok (.irem, 1) := by decide +kernel
theorem dX7_bestDecision_61 : decode cX7_bestDecision 61 = .ok (.istore 6, 2) := by decide +kernel
theorem dX7_bestDecision_63 : decode cX7_bestDecision 63 = .ok (.iload 5, 2) := by decide +kernel
theorem dX7_bestDecision_65 : decode cX7_bestDecision 65 = .ok (.iload 6, 2) := by decide +kernel
theorem dX7_bestDecision_67 : decode cX7_bestDecision 67 = .ok (.invokestatic 66, 3) := by decide +kernel
theorem dX7_bestDecision_70 : decode cX7_bestDecision 70 = .ok (.istore 7, 2) := by decide +kernel
theorem dX7_bestDecision_72 : decode cX7_bestDecision 72 = .ok (.iconst 0, 1) := by decide +kernel
theorem dX7_bestDecision_73 : decode cX7_bestDecision 73 = .ok (.istore 8, 2) := by decide +kernel
theorem dX7_bestDecision_75 : decode cX7_bestDecision 75 = .ok (.iload 8, 2) := by decide +kernel
theorem dX7_bestDecision_77 : decode cX7_bestDecision 77 = .ok (.aload_n 0, 1) := by decide +kernel
theorem dX7_bestDecision_78 : decode cX7_bestDecision 78 = .ok (.getfield 16, 3) := by decide +kernel
theorem dX7_bestDecision_81 : decode cX7_bestDecision 81 = .ok (.iload 7, 2) := by decide +kernel
theorem dX7_bestDecision_83 : decode cX7_bestDecision 83 = .ok (.iaload, 1) := by decide +kernel
theorem dX7_bestDecision_84 : decode cX7_bestDecision 84 = .ok (.if_icmp .ge 106, 3) := by decide +kernel
theorem dX7_bestDecision_87 : decode cX7_bestDecision 87 = .ok (.aload_n 0, 1) := by decide +kernel
theorem dX7_bestDecision_88 : decode cX7_bestDecision 88 = .ok (.getfield 16, 3) := by decide +kernel
theorem dX7_bestDecision_91 : decode cX7_bestDecision 91 = .ok (.iload 7, 2) := by decide +kernel
theorem dX7_bestDecision_93 : decode cX7_bestDecision 93 = .ok (.iload 8, 2) := by decide +kernel
theorem dX7_bestDecision_95 : decode cX7_bestDecision 95 = .ok (.invokestatic 73, 3) := by decide +kernel
theorem dX7_bestDecision_98 : decode cX7_bestDecision 98 = .ok (.iconst 3, 1) := by decide +kernel
theorem dX7_bestDecision_99 : decode cX7_bestDecision 99 = .ok (.iadd, 1) := by decide +kernel
theorem dX7_bestDecision_100 : decode cX7_bestDecision 100 = .ok (.iaload, 1) := by decide +kernel
theorem dX7_bestDecision_101 : decode cX7_bestDecision 101 = .ok (.bipush (-9), 2) := by decide +kernel
theorem dX7_bestDecision_103 : decode cX7_bestDecision 103 = .ok (.if_icmp .ne 81, 3) := by decide +kernel
theorem dX7_bestDecision_106 : decode cX7_bestDecision 106 = .ok (.aload_n 0, 1) := by decide +kernel
theorem dX7_bestDecision_107 : decode cX7_bestDecision 107 = .ok (.getfield 16, 3) := by decide +kernel
theorem dX7_bestDecision_110 : decode cX7_bestDecision 110 = .ok (.iload 7, 2) := by decide +kernel
theorem dX7_bestDecision_112 : decode cX7_bestDecision 112 = .ok (.iload 8, 2) := by decide +kernel
theorem dX7_bestDecision_114 : decode cX7_bestDecision 114 = .ok (.iload_n 1, 1) := by decide +kernel
theorem dX7_bestDecision_115 : decode cX7_bestDecision 115 = .ok (.invokestatic 214, 3) := by decide +kernel
theorem dX7_bestDecision_118 : decode cX7_bestDecision 118 = .ok (.ifCond .eq 66, 3) := by decide +kernel
theorem dX7_bestDecision_121 : decode cX7_bestDecision 121 = .ok (.aload_n 0, 1) := by decide +kernel
theorem dX7_bestDecision_122 : decode cX7_bestDecision 122 = .ok (.getfield 19, 3) := by decide +kernel
theorem dX7_bestDecision_125 : decode cX7_bestDecision 125 = .ok (.iload 7, 2) := by decide +kernel
theorem dX7_bestDecision_127 : decode cX7_bestDecision 127 = .ok (.iload 8, 2) := by decide +kernel
theorem dX7_bestDecision_129 : decode cX7_bestDecision 129 = .ok (.iload_n 1, 1) := by decide +kernel
theorem dX7_bestDecision_130 : decode cX7_bestDecision 130 = .ok (.invokestatic 217, 3) := by decide +kernel
theorem dX7_bestDecision_133 : decode cX7_bestDecision 133 = .ok (.aload_n 0, 1) := by decide +kernel
theorem dX7_bestDecision_134 : decode cX7_bestDecision 134 = .ok (.getfield 19, 3) := by decide +kernel
theorem dX7_bestDecision_137 : decode cX7_bestDecision 137 = .ok (.invokestatic 175, 3) := by decide +kernel
theorem dX7_bestDecision_140 : decode cX7_bestDecision 140 = .ok (.istore 9, 2) := by decide +kernel
theorem dX7_bestDecision_142 : decode cX7_bestDecision 142 = .ok (.aload_n 0, 1) := by decide +kernel
theorem dX7_bestDecision_143 : decode cX7_bestDecision 143 = .ok (.getfield 19, 3) := by decide +kernel
theorem dX7_bestDecision_146 : decode cX7_bestDecision 146 = .ok (.iload 7, 2) := by decide +kernel
theorem dX7_bestDecision_148 : decode cX7_bestDecision 148 = .ok (.iload 8, 2) := by decide +kernel
theorem dX7_bestDecision_150 : decode cX7_bestDecision 150 = .ok (.iconst 2, 1) := by decide +kernel
theorem dX7_bestDecision_151 : decode cX7_bestDecision 151 = .ok (.invokestatic 217, 3) := by decide +kernel
theorem dX7_bestDecision_154 : decode cX7_bestDecision 154 = .ok (.iload_n 2, 1) := by decide +kernel
theorem dX7_bestDecision_155 : decode cX7_bestDecision 155 = .ok (.bipush (-9), 2) := by decide +kernel
theorem dX7_bestDecision_157 : decode cX7_bestDecision 157 = .ok (.if_icmp .eq 9, 3) := by decide +kernel
theorem dX7_bestDecision_160 : decode cX7_bestDecision 160 = .ok (.iload 9, 2) := by decide +kernel
theorem dX7_bestDecision_162 : decode cX7_bestDecision 162 = .ok (.iload_n 3, 1) := by decide +kernel
theorem dX7_bestDecision_163 : decode cX7_bestDecision 163 = .ok (.if_icmp .ge 21, 3) := by decide +kernel
theorem dX7_bestDecision_166 : decode cX7_bestDecision 166 = .ok (.bipush 100, 2) := by decide +kernel
theorem dX7_bestDecision_168 : decode cX7_bestDecision 168 = .ok (.iload 5, 2) := by decide +kernel
theorem dX7_bestDecision_170 : decode cX7_bestDecision 170 = .ok (.imul, 1) := by decide +kernel
theorem dX7_bestDecision_171 : decode cX7_bestDecision 171 = .ok (.bipush 10, 2) := by decide +kernel
theorem dX7_bestDecision_173 : decode cX7_bestDecision 173 = .ok (.iload 6, 2) := by decide +kernel
theorem dX7_bestDecision_175 : decode cX7_bestDecision 175 = .ok (.imul, 1) := by decide +kernel
theorem dX7_bestDecision_176 : decode cX7_bestDecision 176 = .ok (.iadd, 1) := by decide +kernel
theorem dX7_bestDecision_177 : decode cX7_bestDecision 177 = .ok (.iload 8, 2) := by decide +kernel
theorem dX7_bestDecision_179 : decode cX7_bestDecision 179 = .ok (.iadd, 1) := by decide +kernel
theorem dX7_bestDecision_180 : decode cX7_bestDecision 180 = .ok (.istore_n 2, 1) := by decide +kernel
theorem dX7_bestDecision_181 : decode cX7_bestDecision 181 = .ok (.iload 9, 2) := by decide +kernel
theorem dX7_bestDecision_183 : decode cX7_bestDecision 183 = .ok (.istore_n 3, 1) := by decide +kernel
theorem dX7_bestDecision_184 : decode cX7_bestDecision 184 = .ok (.iinc 8 1, 3) := by decide +kernel
theorem dX7_bestDecision_187 : decode cX7_bestDecision 187 = .ok (.goto (-112), 3) := by decide +kernel
theorem dX7_bestDecision_190 : decode cX7_bestDecision 190 = .ok (.iinc 4 1, 3) := by decide +kernel
theorem dX7_bestDecision_193 : decode cX7_bestDecision 193 = .ok (.goto (-151), 3) := by decide +kernel
theorem dX7_bestDecision_196 : decode cX7_bestDecision 196 = .ok (.iload_n 2, 1) := by decide +kernel
theorem dX7_bestDecision_197 : decode cX7_bestDecision 197 = .ok (.ireturn, 1) := by decide +kernel
def LX7_bestDecision_75 {ρ : Type} (T : zT) (x21 : Nat) (x22 : Int32) (x23 : Int32) (x24 : Int32) (x25 : Int32) (x26 : Int32) (K0 : Int32 → Int32 → zH → Option ρ) : Nat → Int32 → Int32 → Int32 → zH → Option ρ
  | 0, _, _, _, _ => none
  | k + 1, x27, x28, x29, h30 => (zgr h30 x21 7 5).bind fun x31 => (zai T h30 x31 x26).bind fun x32 => if x32 ≤ x29 then (K0 x27 x28 h30) else (zJ (fun (x33 : Int32) (x34 : Int32) (h35 : zH) => LX7_bestDecision_75 T x21 x22 x23 x24 x25 x26 K0 k x33 x34 (x29 + 1) h35) (fun J36 => (zgr h30 x21 7 5).bind fun x37 => (FX7_markAt T x26 x29 h30).bind fun x39 => (zai T h30 x37 (x39 + 3)).bind fun x40 => if x40 = (-9 : Int32) then ((zgr h30 x21 7 5).bind fun x41 => (FX7_canDecide T x41 x26 x29 x22 h30).bind fun x43 => if x43 = 0 then (J36 x27 x28 h30) else (zJ (fun (x44 : Int32) (h45 : zH) => J36 (((100 * x24) + (10 * x25)) + x29) x44 h45) (fun J46 => (zgr h30 x21 7 6).bind fun x47 => (FX7_decideOn T x47 x26 x29 x22 h30).bind fun h49 => (zgr h49 x21 7 6).bind fun x50 => (FX7_doubts T x50 h49).bind fun x52 => (zgr h49 x21 7 6).bind fun x53 => (FX7_decideOn T x53 x26 x29 2 h49).bind fun h55 => if x27 = (-9 : Int32) then (J46 x52 h55) else (if x28 ≤ x52 then (J36 x27 x28 h55) else (J46 x52 h55))))) else (J36 x27 x28 h30)))
set_option maxHeartbeats 4000000 in
set_option maxRecDepth 100000 in
theorem LX7_bestDecision_75_ok {X : zX} (C : zC X cX7_bestDecision 10 RX7 "bestDecision" (some .int) 5 114) {Z : State → Prop} {al : Bool} {hi : Nat} {ρ : Type} {r9 : ρ} {x21 : Nat} {x22 : Int32} {x23 : Int32} {x24 : Int32} {x25 : Int32} {x26 : Int32} {K0 : Int32 → Int32 → zH → Option ρ} (hK0 : ∀ (y2 : Int32) (y3 : Int32) (g9 : zH), K0 y2 y3 g9 = some r9 → zW X 10 Z 0 0 al hi g9 190 [(0, .ref x21), (1, .int x22), (2, .int y2), (3, .int y3), (4, .int x23)] []) : ∀ (k : Nat) (x27 : Int32) (x28 : Int32) (x29 : Int32) (h30 : zH), LX7_bestDecision_75 (xT X) x21 x22 x23 x24 x25 x26 K0 k x27 x28 x29 h30 = some r9 → zW X 10 Z 0 0 al hi h30 75 [(0, .ref x21), (1, .int x22), (2, .int x27), (3, .int x28), (4, .int x23), (5, .int x24), (6, .int x25), (7, .int x26), (8, .int x29)] [] := by
  intro k
  induction k with
  | zero =>
    intro x27 x28 x29 h30 hf
    have hf : none = some r9 := hf
    cases hf
  | succ k ih =>
    intro x27 x28 x29 h30 hf
    rw [LX7_bestDecision_75.eq_2] at hf
    refine z_iload C dX7_bestDecision_75 8 rfl ?_
    refine z_aload_n C dX7_bestDecision_77 0 rfl rfl ?_
    refine z_getR C fl_X7_16 dX7_bestDecision_78 hf (fun x31 hf => ?_)
    refine z_iload C dX7_bestDecision_81 7 rfl ?_
    refine z_iaload C dX7_bestDecision_83 hf (fun x32 hf => ?_)
    refine z_icmp_ge (tgt := 190) C dX7_bestDecision_84 (by decide) hf (fun hf => ?_) (fun hf => ?_)
    · refine z_sub [0, 1, 2, 3, 4] rfl ?_
      exact hK0 _ _ _ hf
    · refine z_join (P := fun J => ∀ (x33 : Int32) (x34 : Int32) (h35 : zH), J x33 x34 h35 = some r9 → zW X 10 Z 0 0 al hi h35 184 [(0, .ref x21), (1, .int x22), (2, .int x33), (3, .int x34), (4, .int x23), (5, .int x24), (6, .int x25), (7, .int x26), (8, .int x29)] []) hf ?_ ?_
      · intro x33 x34 h35 hf
        refine z_iinc C dX7_bestDecision_184 (k := 8) (d := 1) rfl (by decide) (by decide) (lv' := [(8, .int (x29 + 1)), (0, .ref x21), (1, .int x22), (2, .int x33), (3, .int x34), (4, .int x23), (5, .int x24), (6, .int x25), (7, .int x26)]) rfl ?_
        refine z_goto (tgt := 75) C dX7_bestDecision_187 (by decide) ?_
        refine z_sub [1, 2, 3, 4, 5, 6, 7, 8, 0] rfl ?_
        exact ih _ _ _ _ hf
      · intro J36 kJ36 hf
        refine z_aload_n C dX7_bestDecision_87 0 rfl rfl ?_
        refine z_getR C fl_X7_16 dX7_bestDecision_88 hf (fun x37 hf => ?_)
        refine z_iload C dX7_bestDecision_91 7 rfl ?_
        refine z_iload C dX7_bestDecision_93 8 rfl ?_
        obtain ⟨x39, g38, hf⟩ := zbind hf
        refine z_callS (kc' := 0) (ks' := 0) C (MX7_markAt (xl X) (xD X) (xT X) (xlo X) al hi g38) cw_X7_73 ys_X7_markAt dX7_bestDecision_95 rfl (by decide) ⟨rfl, rfl⟩ (Nat.le_of_ble_eq_true rfl) (st := [.ref x37]) rfl ?_
        refine z_iconst C (v := 3) dX7_bestDecision_98 (by decide) ?_
        refine z_iadd C dX7_bestDecision_99 ?_
        refine z_iaload C dX7_bestDecision_100 hf (fun x40 hf => ?_)
        refine z_bipush C (v := (-9 : Int32)) dX7_bestDecision_101 (by decide) ?_
        refine z_icmp_ne (tgt := 184) C dX7_bestDecision_103 (by decide) hf (fun hf => ?_) (fun hf => ?_)
        · exact kJ36 _ _ _ hf
        · refine z_aload_n C dX7_bestDecision_106 0 rfl rfl ?_
          refine z_getR C fl_X7_16 dX7_bestDecision_107 hf (fun x41 hf => ?_)
          refine z_iload C dX7_bestDecision_110 7 rfl ?_
          refine z_iload C dX7_bestDecision_112 8 rfl ?_
          refine z_iload_n C dX7_bestDecision_114 1 rfl rfl ?_
          obtain ⟨x43, g42, hf⟩ := zbind hf
          refine z_callS (kc' := 0) (ks' := 0) C (MX7_canDecide (xl X) (xD X) (xT X) (xlo X) al hi g42) cw_X7_214 ys_X7_canDecide dX7_bestDecision_115 rfl (by decide) ⟨rfl, rfl⟩ (Nat.le_of_ble_eq_true rfl) (st := []) rfl ?_
          refine z_if_eq (tgt := 184) C dX7_bestDecision_118 (by decide) hf (fun hf => ?_) (fun hf => ?_)
          · exact kJ36 _ _ _ hf
          · refine z_join (P := fun J => ∀ (x44 : Int32) (h45 : zH), J x44 h45 = some r9 → zW X 10 Z 0 0 al hi h45 166 [(0, .ref x21), (1, .int x22), (4, .int x23), (5, .int x24), (6, .int x25), (7, .int x26), (8, .int x29), (9, .int x44)] []) hf ?_ ?_
            · intro x44 h45 hf
              refine z_bipush C (v := 100) dX7_bestDecision_166 (by decide) ?_
              refine z_iload C dX7_bestDecision_168 3 rfl ?_
              refine z_imul C dX7_bestDecision_170 ?_
              refine z_bipush C (v := 10) dX7_bestDecision_171 (by decide) ?_
              refine z_iload C dX7_bestDecision_173 4 rfl ?_
              refine z_imul C dX7_bestDecision_175 ?_
              refine z_iadd C dX7_bestDecision_176 ?_
              refine z_iload C dX7_bestDecision_177 6 rfl ?_
              refine z_iadd C dX7_bestDecision_179 ?_
              refine z_istore_n C dX7_bestDecision_180 rfl (by decide) (lv' := [(2, .int (((100 * x24) + (10 * x25)) + x29)), (0, .ref x21), (1, .int x22), (4, .int x23), (5, .int x24), (6, .int x25), (7, .int x26), (8, .int x29), (9, .int x44)]) rfl ?_
              refine z_iload C dX7_bestDecision_181 8 rfl ?_
              refine z_istore_n C dX7_bestDecision_183 rfl (by decide) (lv' := [(3, .int x44), (2, .int (((100 * x24) + (10 * x25)) + x29)), (0, .ref x21), (1, .int x22), (4, .int x23), (5, .int x24), (6, .int x25), (7, .int x26), (8, .int x29), (9, .int x44)]) rfl ?_
              refine z_sub [2, 3, 1, 0, 4, 5, 6, 7, 8] rfl ?_
              exact kJ36 _ _ _ hf
            · intro J46 kJ46 hf
              refine z_aload_n C dX7_bestDecision_121 0 rfl rfl ?_
              refine z_getR C fl_X7_19 dX7_bestDecision_122 hf (fun x47 hf => ?_)
              refine z_iload C dX7_bestDecision_125 7 rfl ?_
              refine z_iload C dX7_bestDecision_127 8 rfl ?_
              refine z_iload_n C dX7_bestDecision_129 1 rfl rfl ?_
              obtain ⟨h49, g48, hf⟩ := zbind hf
              refine z_callS (kc' := 0) (ks' := 0) C (MX7_decideOn (xl X) (xD X) (xT X) (xlo X) al hi g48) cw_X7_217 ys_X7_decideOn dX7_bestDecision_130 rfl (by decide) ⟨rfl, rfl⟩ (Nat.le_of_ble_eq_true rfl) (st := []) rfl ?_
              refine z_aload_n C dX7_bestDecision_133 0 rfl rfl ?_
              refine z_getR C fl_X7_19 dX7_bestDecision_134 hf (fun x50 hf => ?_)
              obtain ⟨x52, g51, hf⟩ := zbind hf
              refine z_callS (kc' := 0) (ks' := 0) C (MX7_doubts (xl X) (xD X) (xT X) (xlo X) al hi g51) cw_X7_175 ys_X7_doubts dX7_bestDecision_137 rfl (by decide) ⟨rfl, rfl⟩ (Nat.le_of_ble_eq_true rfl) (st := []) rfl ?_
              refine z_istore C dX7_bestDecision_140 (by decide) (lv' := [(9, .int x52), (0, .ref x21), (1, .int x22), (2, .int x27), (3, .int x28), (4, .int x23), (5, .int x24), (6, .int x25), (7, .int x26), (8, .int x29)]) rfl ?_
              refine z_aload_n C dX7_bestDecision_142 1 rfl rfl ?_
              refine z_getR C fl_X7_19 dX7_bestDecision_143 hf (fun x53 hf => ?_)
              refine z_iload C dX7_bestDecision_146 8 rfl ?_
              refine z_iload C dX7_bestDecision_148 9 rfl ?_
              refine z_iconst C (v := 2) dX7_bestDecision_150 (by decide) ?_
              obtain ⟨h55, g54, hf⟩ := zbind hf
              refine z_callS (kc' := 0) (ks' := 0) C (MX7_decideOn (xl X) (xD X) (xT X) (xlo X) al hi g54) cw_X7_217 ys_X7_decideOn dX7_bestDecision_151 rfl (by decide) ⟨rfl, rfl⟩ (Nat.le_of_ble_eq_true rfl) (st := []) rfl ?_
              refine z_iload_n C dX7_bestDecision_154 3 rfl rfl ?_
              refine z_bipush C (v := (-9 : Int32)) dX7_bestDecision_155 (by decide) ?_
              refine z_icmp_eq (tgt := 166) C dX7_bestDecision_157 (by decide) hf (fun hf => ?_) (fun hf => ?_)
              · refine z_sub [1, 2, 5, 6, 7, 8, 9, 0] rfl ?_
                exact kJ46 _ _ hf
              · refine z_iload C dX7_bestDecision_160 0 rfl ?_
                refine z_iload_n C dX7_bestDecision_162 4 rfl rfl ?_
                refine z_icmp_ge (tgt := 184) C dX7_bestDecision_163 (by decide) hf (fun hf => ?_) (fun hf => ?_)
                · refine z_sub [1, 2, 3, 4, 5, 6, 7, 8, 9] rfl ?_
                  exact kJ36 _ _ _ hf
                · refine z_sub [1, 2, 5, 6, 7, 8, 9, 0] rfl ?_
                  exact kJ46 _ _ hf
def LX7_bestDecision_42 {ρ : Type} (T : zT) (x11 : Nat) (x12 : Int32) (K0 : Int32 → zH → Option ρ) : Nat → Int32 → Int32 → Int32 → zH → Option ρ
  | 0, _, _, _, _ => none
  | k + 1, x13, x14, x15, h16 => if 81 ≤ x15 then (K0 x13 h16) else ((zdivI x15 9).bind fun x17 => (zremI x15 9).bind fun x18 => (FX7_cellAt T x17 x18 h16).bind fun x20 => LX7_bestDecision_75 T x11 x12 x15 x17 x18 x20 (fun (x56 : Int32) (x57 : Int32) (h58 : zH) => LX7_bestDecision_42 T x11 x12 K0 k x56 x57 (x15 + 1) h58) FUEL x13 x14 0 h16)
set_option maxHeartbeats 4000000 in
set_option maxRecDepth 100000 in
theorem LX7_bestDecision_42_ok {X : zX} (C : zC X cX7_bestDecision 10 RX7 "bestDecision" (some .int) 5 114) {Z : State → Prop} {al : Bool} {hi : Nat} {ρ : Type} {r9 : ρ} {x11 : Nat} {x12 : Int32} {K0 : Int32 → zH → Option ρ} (hK0 : ∀ (y2 : Int32) (g9 : zH), K0 y2 g9 = some r9 → zW X 10 Z 0 0 al hi g9 196 [(2, .int y2)] []) : ∀ (k : Nat) (x13 : Int32) (x14 : Int32) (x15 : Int32) (h16 : zH), LX7_bestDecision_42 (xT X) x11 x12 K0 k x13 x14 x15 h16 = some r9 → zW X 10 Z 0 0 al hi h16 42 [(0, .ref x11), (1, .int x12), (2, .int x13), (3, .int x14), (4, .int x15)] [] := by
  intro k
  induction k with
  | zero =>
    intro x13 x14 x15 h16 hf
    have hf : none = some r9 := hf
    cases hf
  | succ k ih =>
    intro x13 x14 x15 h16 hf
    rw [LX7_bestDecision_42.eq_2] at hf
    refine z_iload C dX7_bestDecision_42 4 rfl ?_
    refine z_bipush C (v := 81) dX7_bestDecision_44 (by decide) ?_
    refine z_icmp_ge (tgt := 196) C dX7_bestDecision_46 (by decide) hf (fun hf => ?_) (fun hf => ?_)
    · refine z_sub [2] rfl ?_
      exact hK0 _ _ hf
    · refine z_iload C dX7_bestDecision_49 4 rfl ?_
      refine z_bipush C (v := 9) dX7_bestDecision_51 (by decide) ?_
      refine z_idiv C dX7_bestDecision_53 hf (fun x17 _ hf => ?_)
      refine z_istore C dX7_bestDecision_54 (by decide) (lv' := [(5, .int x17), (0, .ref x11), (1, .int x12), (2, .int x13), (3, .int x14), (4, .int x15)]) rfl ?_
      refine z_iload C dX7_bestDecision_56 5 rfl ?_
      refine z_bipush C (v := 9) dX7_bestDecision_58 (by decide) ?_
      refine z_irem C dX7_bestDecision_60 hf (fun x18 _ hf => ?_)
      refine z_istore C dX7_bestDecision_61 (by decide) (lv' := [(6, .int x18), (5, .int x17), (0, .ref x11), (1, .int x12), (2, .int x13), (3, .int x14), (4, .int x15)]) rfl ?_
      refine z_iload C dX7_bestDecision_63 1 rfl ?_
      refine z_iload C dX7_bestDecision_65 0 rfl ?_
      obtain ⟨x20, g19, hf⟩ := zbind hf
      refine z_callS (kc' := 0) (ks' := 0) C (MX7_cellAt (xl X) (xD X) (xT X) (xlo X) al hi g19) cw_X7_66 ys_X7_cellAt dX7_bestDecision_67 rfl (by decide) ⟨rfl, rfl⟩ (Nat.le_of_ble_eq_true rfl) (st := []) rfl ?_
      refine z_istore C dX7_bestDecision_70 (by decide) (lv' := [(7, .int x20), (6, .int x18), (5, .int x17), (0, .ref x11), (1, .int x12), (2, .int x13), (3, .int x14), (4, .int x15)]) rfl ?_
      refine z_iconst C (v := 0) dX7_bestDecision_72 (by decide) ?_
      refine z_istore C dX7_bestDecision_73 (by decide) (lv' := [(8, .int 0), (7, .int x20), (6, .int x18), (5, .int x17), (0, .ref x11), (1, .int x12), (2, .int x13), (3, .int x14), (4, .int x15)]) rfl ?_
      refine z_sub [4, 5, 6, 7, 8, 3, 2, 1, 0] rfl ?_
      refine LX7_bestDecision_75_ok C ?_ FUEL _ _ _ _ hf
      · intro x56 x57 h58 hf
        refine z_iinc C dX7_bestDecision_190 (k := 4) (d := 1) rfl (by decide) (by decide) (lv' := [(4, .int (x15 + 1)), (0, .ref x11), (1, .int x12), (2, .int x56), (3, .int x57)]) rfl ?_
        refine z_goto (tgt := 42) C dX7_bestDecision_193 (by decide) ?_
        refine z_sub [1, 2, 3, 4, 0] rfl ?_
        exact ih _ _ _ _ hf
def FX7_bestDecision (T : zT) (a0 : Nat) (p0 : Int32) (h : zH) : Option (Int32 × zH) := (zo h a0 7).bind fun _ => zJ (fun (x1 : Int32) (x2 : Nat) => zb2 (FX7_refused T x2 x1 h) fun x5 h6 => if x5 = 0 then ((zgr h6 a0 7 5).bind fun x7 => (zgr h6 a0 7 6).bind fun x8 => (FX7_copyPage T x7 0 x8 0 h6).bind fun h10 => LX7_bestDecision_42 T a0 p0 (fun (x59 : Int32) (h60 : zH) => some (x59, h60)) FUEL (-9 : Int32) 0 0 h10) else (some (0, h6))) (fun J3 => (FX7_isLetter T p0 h).bind fun x62 => if x62 = 0 then (J3 1 a0) else (J3 0 a0))
set_option maxHeartbeats 4000000 in
set_option maxRecDepth 100000 in
theorem BX7_bestDecision {X : zX} (C : zC X cX7_bestDecision 10 RX7 "bestDecision" (some .int) 5 114) {al : Bool} {hi : Nat} {h : zH} {a0 : Nat} {p0 : Int32} {r9 : (Int32 × zH)} (hf : FX7_bestDecision (xT X) a0 p0 h = some r9) : zW X 10 (zZ X al (some (.int r9.1), hi, r9.2)) 0 0 al hi h 0 [(0, .ref a0), (1, .int p0)] [] := by
  unfold FX7_bestDecision at hf
  obtain ⟨_, _, hf⟩ := zbind hf
  refine z_join (P := fun J => ∀ (x1 : Int32) (x2 : Nat), J x1 x2 = some r9 → zW X 10 (zZ X al (some (.int r9.1), hi, r9.2)) 0 0 al hi h 13 [(0, .ref a0), (1, .int p0)] [.int x1, .ref x2]) hf ?_ ?_
  · intro x1 x2 hf
    obtain ⟨x5, h6, g4, hf⟩ := zbind2 hf
    refine z_callV (kc' := 0) (ks' := 0) C (MX7_refused (xl X) (xD X) (xT X) (xlo X) al hi g4) (OX7_refused g4) rfl cw_X7_120 yv_X7_refused dX7_bestDecision_13 rfl (by decide) ⟨rfl, rfl⟩ (Nat.le_of_ble_eq_true rfl) (st := []) rfl ?_
    refine z_if_eq (tgt := 21) C dX7_bestDecision_16 (by decide) hf (fun hf => ?_) (fun hf => ?_)
    · refine z_aload_n C dX7_bestDecision_21 0 rfl rfl ?_
      refine z_getR C fl_X7_16 dX7_bestDecision_22 hf (fun x7 hf => ?_)
      refine z_iconst C (v := 0) dX7_bestDecision_25 (by decide) ?_
      refine z_aload_n C dX7_bestDecision_26 0 rfl rfl ?_
      refine z_getR C fl_X7_19 dX7_bestDecision_27 hf (fun x8 hf => ?_)
      refine z_iconst C (v := 0) dX7_bestDecision_30 (by decide) ?_
      obtain ⟨h10, g9, hf⟩ := zbind hf
      refine z_callS (kc' := 0) (ks' := 0) C (MX7_copyPage (xl X) (xD X) (xT X) (xlo X) al hi g9) cw_X7_107 ys_X7_copyPage dX7_bestDecision_31 rfl (by decide) ⟨rfl, rfl⟩ (Nat.le_of_ble_eq_true rfl) (st := []) rfl ?_
      refine z_bipush C (v := (-9 : Int32)) dX7_bestDecision_34 (by decide) ?_
      refine z_istore_n C dX7_bestDecision_36 rfl (by decide) (lv' := [(2, .int (-9 : Int32)), (0, .ref a0), (1, .int p0)]) rfl ?_
      refine z_iconst C (v := 0) dX7_bestDecision_37 (by decide) ?_
      refine z_istore_n C dX7_bestDecision_38 rfl (by decide) (lv' := [(3, .int 0), (2, .int (-9 : Int32)), (0, .ref a0), (1, .int p0)]) rfl ?_
      refine z_iconst C (v := 0) dX7_bestDecision_39 (by decide) ?_
      refine z_istore C dX7_bestDecision_40 (by decide) (lv' := [(4, .int 0), (3, .int 0), (2, .int (-9 : Int32)), (0, .ref a0), (1, .int p0)]) rfl ?_
      refine z_sub [3, 4, 2, 1, 0] rfl ?_
      refine LX7_bestDecision_42_ok C ?_ FUEL _ _ _ _ hf
      · intro x59 h60 hf
        refine z_iload_n C dX7_bestDecision_196 0 rfl rfl ?_
        exact z_ireturn C dX7_bestDecision_197 (by cases hf; rfl)
    · refine z_iconst C (v := 0) dX7_bestDecision_19 (by decide) ?_
      exact z_ireturn C dX7_bestDecision_20 (by cases hf; rfl)
  · intro J3 kJ3 hf
    refine z_aload_n C dX7_bestDecision_0 0 rfl rfl ?_
    refine z_iload_n C dX7_bestDecision_1 1 rfl rfl ?_
    obtain ⟨x62, g61, hf⟩ := zbind hf
    refine z_callS (kc' := 0) (ks' := 0) C (MX7_isLetter (xl X) (xD X) (xT X) (xlo X) al hi g61) cw_X7_182 ys_X7_isLetter dX7_bestDecision_2 rfl (by decide) ⟨rfl, rfl⟩ (Nat.le_of_ble_eq_true rfl) (st := [.ref a0]) rfl ?_
    refine z_if_eq (tgt := 12) C dX7_bestDecision_5 (by decide) hf (fun hf => ?_) (fun hf => ?_)
    · refine z_iconst C (v := 1) dX7_bestDecision_12 (by decide) ?_
      exact kJ3 _ _ hf
    · refine z_iconst C (v := 0) dX7_bestDecision_8 (by decide) ?_
      refine z_goto (tgt := 13) C dX7_bestDecision_9 (by decide) ?_
      exact kJ3 _ _ hf
theorem MX7_bestDecision (l : Launch) (D : va_G) (T : zT) (lo : Nat) (al : Bool) (hi : Nat) {h : zH} {a0 : Nat} {p0 : Int32} {v9 : Int32} {h9 : zH} (hf : FX7_bestDecision T a0 p0 h = some (v9, h9)) : zM l yX7_bestDecision (.code yX7_bestDecision cX7_bestDecision 10 (some .int) :: TW) ({ frames := 5, cells := 0, slots := 0, locals := 114 } : Room) D T lo al [.ref a0, .int p0] hi h (some (.int v9), hi, h9) :=
  z_enter (own := RX7) (nm := "bestDecision") (lv := [(0, .ref a0), (1, .int p0)]) (by decide +kernel) rfl rfl (Nat.le_of_ble_eq_true rfl) rfl (fun _ _ _ _ _ _ _ _ C => BX7_bestDecision C hf)
theorem OX7_bestDecision {T : zT} {h : zH} {a0 : Nat} {p0 : Int32} {r9 : (Int32 × zH)} (hf : FX7_bestDecision T a0 p0 h = some r9) : ∃ fs, h a0 = some (.inr (7, fs)) := by
  obtain ⟨_, h1, _⟩ := zbind hf
  exact zo_obj h1
theorem dX7_wordsWith_0 : decode cX7_wordsWith 0 = .ok (.aload_n 0, 1) := by decide +kernel
theorem dX7_wordsWith_1 : decode cX7_wordsWith 1 = .ok (.iload_n 1, 1) := by decide +kernel
theorem dX7_wordsWith_2 : decode cX7_wordsWith 2 = .ok (.invokestatic 182, 3) := by decide +kernel
theorem dX7_wordsWith_5 : decode cX7_wordsWith 5 = .ok (.ifCond .ne 7, 3) := by decide +kernel
theorem dX7_wordsWith_8 : decode cX7_wordsWith 8 = .ok (.iconst 1, 1) := by decide +kernel
theorem dX7_wordsWith_9 : decode cX7_wordsWith 9 = .ok (.goto 20, 3) := by decide +kernel
theorem dX7_wordsWith_12 : decode cX7_wordsWith 12 = .ok (.iload_n 2, 1) := by decide +kernel
theorem dX7_wordsWith_13 : decode cX7_wordsWith 13 = .ok (.i2l, 1) := by decide +kernel
theorem dX7_wordsWith_14 : decode cX7_wordsWith 14 = .ok (.lconst 1, 1) := by decide +kernel
theorem dX7_wordsWith_15 : decode cX7_wordsWith 15 = .ok (.ldc2_w 202, 3) := by decide +kernel
theorem dX7_wordsWith_18 : decode cX7_wordsWith 18 = .ok (.invokestatic 58, 3) := by decide +kernel
theorem dX7_wordsWith_21 : decode cX7_wordsWith 21 = .ok (.ifCond .ne 7, 3) := by decide +kernel
theorem dX7_wordsWith_24 : decode cX7_wordsWith 24 = .ok (.iconst 2, 1) := by decide +kernel
theorem dX7_wordsWith_25 : decode cX7_wordsWith 25 = .ok (.goto 4, 3) := by decide +kernel
theorem dX7_wordsWith_28 : decode cX7_wordsWith 28 = .ok (.iconst 0, 1) := by decide +kernel
theorem dX7_wordsWith_29 : decode cX7_wordsWith 29 = .ok (.invokevirtual 120, 3) := by decide +kernel
theorem dX7_wordsWith_32 : decode cX7_wordsWith 32 = .ok (.ifCond .eq 7, 3) := by decide +kernel
theorem dX7_wordsWith_35 : decode cX7_wordsWith 35 = .ok (.iconst 0, 1) := by decide +kernel
theorem dX7_wordsWith_36 : decode cX7_wordsWith 36 = .ok (.goto 13, 3) := by decide +kernel
theorem dX7_wordsWith_39 : decode cX7_wordsWith 39 = .ok (.aload_n 0, 1) := by decide +kernel
theorem dX7_wordsWith_40 : decode cX7_wordsWith 40 = .ok (.aload_n 0, 1) := by decide +kernel
theorem dX7_wordsWith_41 : decode cX7_wordsWith 41 = .ok (.getfield 16, 3) := by decide +kernel
theorem dX7_wordsWith_44 : decode cX7_wordsWith 44 = .ok (.iload_n 1, 1) := by decide +kernel
theorem dX7_wordsWith_45 : decode cX7_wordsWith 45 = .ok (.iload_n 2, 1) := by decide +kernel
theorem dX7_wordsWith_46 : decode cX7_wordsWith 46 = .ok (.invokevirtual 104, 3) := by decide +kernel
theorem dX7_wordsWith_49 : decode cX7_wordsWith 49 = .ok (.ireturn, 1) := by decide +kernel
def FX7_wordsWith (T : zT) (a0 : Nat) (p0 : Int32) (p1 : Int32) (h : zH) : Option (Int32 × zH) := (zo h a0 7).bind fun _ => zJ (fun (x1 : Int32) (x2 : Nat) => zJ (fun (x4 : Int32) (h5 : zH) => some (x4, h5)) (fun J6 => zb2 (FX7_refused T x2 x1 h) fun x8 h9 => if x8 = 0 then ((zgr h9 a0 7 5).bind fun x10 => zb2 (FX7_layWords T a0 x10 p0 p1 h9) fun x12 h13 => J6 x12 h13) else (J6 0 h9))) (fun J3 => (FX7_isLetter T p0 h).bind fun x15 => if x15 = 0 then (J3 1 a0) else ((FX7_in T p1.toInt64 (1 : Int64) (3 : Int64) h).bind fun x17 => if x17 = 0 then (J3 2 a0) else (J3 0 a0)))
set_option maxHeartbeats 4000000 in
set_option maxRecDepth 100000 in
theorem BX7_wordsWith {X : zX} (C : zC X cX7_wordsWith 3 RX7 "wordsWith" (some .int) 6 149) {al : Bool} {hi : Nat} {h : zH} {a0 : Nat} {p0 : Int32} {p1 : Int32} {r9 : (Int32 × zH)} (hf : FX7_wordsWith (xT X) a0 p0 p1 h = some r9) : zW X 3 (zZ X al (some (.int r9.1), hi, r9.2)) 0 0 al hi h 0 [(0, .ref a0), (1, .int p0), (2, .int p1)] [] := by
  unfold FX7_wordsWith at hf
  obtain ⟨_, _, hf⟩ := zbind hf
  refine z_join (P := fun J => ∀ (x1 : Int32) (x2 : Nat), J x1 x2 = some r9 → zW X 3 (zZ X al (some (.int r9.1), hi, r9.2)) 0 0 al hi h 29 [(0, .ref a0), (1, .int p0), (2, .int p1)] [.int x1, .ref x2]) hf ?_ ?_
  · intro x1 x2 hf
    refine z_join (P := fun J => ∀ (x4 : Int32) (h5 : zH), J x4 h5 = some r9 → zW X 3 (zZ X al (some (.int r9.1), hi, r9.2)) 0 0 al hi h5 49 [] [.int x4]) hf ?_ ?_
    · intro x4 h5 hf
      exact z_ireturn C dX7_wordsWith_49 (by cases hf; rfl)
    · intro J6 kJ6 hf
      obtain ⟨x8, h9, g7, hf⟩ := zbind2 hf
      refine z_callV (kc' := 0) (ks' := 0) C (MX7_refused (xl X) (xD X) (xT X) (xlo X) al hi g7) (OX7_refused g7) rfl cw_X7_120 yv_X7_refused dX7_wordsWith_29 rfl (by decide) ⟨rfl, rfl⟩ (Nat.le_of_ble_eq_true rfl) (st := []) rfl ?_
      refine z_if_eq (tgt := 39) C dX7_wordsWith_32 (by decide) hf (fun hf => ?_) (fun hf => ?_)
      · refine z_aload_n C dX7_wordsWith_39 0 rfl rfl ?_
        refine z_aload_n C dX7_wordsWith_40 0 rfl rfl ?_
        refine z_getR C fl_X7_16 dX7_wordsWith_41 hf (fun x10 hf => ?_)
        refine z_iload_n C dX7_wordsWith_44 1 rfl rfl ?_
        refine z_iload_n C dX7_wordsWith_45 2 rfl rfl ?_
        obtain ⟨x12, h13, g11, hf⟩ := zbind2 hf
        refine z_callV (kc' := 0) (ks' := 0) C (MX7_layWords (xl X) (xD X) (xT X) (xlo X) al hi g11) (OX7_layWords g11) rfl cw_X7_104 yv_X7_layWords dX7_wordsWith_46 rfl (by decide) ⟨rfl, rfl⟩ (Nat.le_of_ble_eq_true rfl) (st := []) rfl ?_
        refine z_sub [] rfl ?_
        exact kJ6 _ _ hf
      · refine z_iconst C (v := 0) dX7_wordsWith_35 (by decide) ?_
        refine z_goto (tgt := 49) C dX7_wordsWith_36 (by decide) ?_
        refine z_sub [] rfl ?_
        exact kJ6 _ _ hf
  · intro J3 kJ3 hf
    refine z_aload_n C dX7_wordsWith_0 0 rfl rfl ?_
    refine z_iload_n C dX7_wordsWith_1 1 rfl rfl ?_
    obtain ⟨x15, g14, hf⟩ := zbind hf
    refine z_callS (kc' := 0) (ks' := 0) C (MX7_isLetter (xl X) (xD X) (xT X) (xlo X) al hi g14) cw_X7_182 ys_X7_isLetter dX7_wordsWith_2 rfl (by decide) ⟨rfl, rfl⟩ (Nat.le_of_ble_eq_true rfl) (st := [.ref a0]) rfl ?_
    refine z_if_ne (tgt := 12) C dX7_wordsWith_5 (by decide) hf (fun hf => ?_) (fun hf => ?_)
    · refine z_iload_n C dX7_wordsWith_12 2 rfl rfl ?_
      refine z_i2l C dX7_wordsWith_13 ?_
      refine z_lconst C (v := 1) dX7_wordsWith_14 (by decide) ?_
      refine z_ldc2 C (v := 3) mw_1212 dX7_wordsWith_15 ?_
      obtain ⟨x17, g16, hf⟩ := zbind hf
      refine z_callS (kc' := 0) (ks' := 0) C (MX7_in (xl X) (xD X) (xT X) (xlo X) al hi g16) cw_X7_58 ys_X7_in dX7_wordsWith_18 rfl (by decide) ⟨rfl, rfl⟩ (Nat.le_of_ble_eq_true rfl) (st := [.ref a0]) rfl ?_
      refine z_if_ne (tgt := 28) C dX7_wordsWith_21 (by decide) hf (fun hf => ?_) (fun hf => ?_)
      · refine z_iconst C (v := 0) dX7_wordsWith_28 (by decide) ?_
        exact kJ3 _ _ hf
      · refine z_iconst C (v := 2) dX7_wordsWith_24 (by decide) ?_
        refine z_goto (tgt := 29) C dX7_wordsWith_25 (by decide) ?_
        exact kJ3 _ _ hf
    · refine z_iconst C (v := 1) dX7_wordsWith_8 (by decide) ?_
      refine z_goto (tgt := 29) C dX7_wordsWith_9 (by decide) ?_
      exact kJ3 _ _ hf
theorem MX7_wordsWith (l : Launch) (D : va_G) (T : zT) (lo : Nat) (al : Bool) (hi : Nat) {h : zH} {a0 : Nat} {p0 : Int32} {p1 : Int32} {v9 : Int32} {h9 : zH} (hf : FX7_wordsWith T a0 p0 p1 h = some (v9, h9)) : zM l yX7_wordsWith (.code yX7_wordsWith cX7_wordsWith 3 (some .int) :: TW) ({ frames := 6, cells := 0, slots := 0, locals := 149 } : Room) D T lo al [.ref a0, .int p0, .int p1] hi h (some (.int v9), hi, h9) :=
  z_enter (own := RX7) (nm := "wordsWith") (lv := [(0, .ref a0), (1, .int p0), (2, .int p1)]) (by decide +kernel) rfl rfl (Nat.le_of_ble_eq_true rfl) rfl (fun _ _ _ _ _ _ _ _ C => BX7_wordsWith C hf)
theorem OX7_wordsWith {T : zT} {h : zH} {a0 : Nat} {p0 : Int32} {p1 : Int32} {r9 : (Int32 × zH)} (hf : FX7_wordsWith T a0 p0 p1 h = some r9) : ∃ fs, h a0 = some (.inr (7, fs)) := by
  obtain ⟨_, h1, _⟩ := zbind hf
  exact zo_obj h1
theorem dX7_does_0 : decode cX7_does 0 = .ok (.bipush 10, 2) := by decide +kernel
theorem dX7_does_2 : decode cX7_does 2 = .ok (.iload 4, 2) := by decide +kernel
theorem dX7_does_4 : decode cX7_does 4 = .ok (.imul, 1) := by decide +kernel
theorem dX7_does_5 : decode cX7_does 5 = .ok (.iload 5, 2) := by decide +kernel
theorem dX7_does_7 : decode cX7_does 7 = .ok (.iadd, 1) := by decide +kernel
theorem dX7_does_8 : decode cX7_does 8 = .ok (.istore 6, 2) := by decide +kernel
theorem dX7_does_10 : decode cX7_does 10 = .ok (.iload_n 2, 1) := by decide +kernel
theorem dX7_does_11 : decode cX7_does 11 = .ok (.bipush 9, 2) := by decide +kernel
theorem dX7_does_13 : decode cX7_does 13 = .ok (.if_icmp .ge 17, 3) := by decide +kernel
theorem dX7_does_16 : decode cX7_does 16 = .ok (.iload_n 3, 1) := by decide +kernel
theorem dX7_does_17 : decode cX7_does 17 = .ok (.bipush 9, 2) := by decide +kernel
theorem dX7_does_19 : decode cX7_does 19 = .ok (.if_icmp .ge 11, 3) := by decide +kernel
theorem dX7_does_22 : decode cX7_does 22 = .ok (.iload_n 2, 1) := by decide +kernel
theorem dX7_does_23 : decode cX7_does 23 = .ok (.iload_n 3, 1) := by decide +kernel
theorem dX7_does_24 : decode cX7_does 24 = .ok (.invokestatic 66, 3) := by decide +kernel
theorem dX7_does_27 : decode cX7_does 27 = .ok (.goto 5, 3) := by decide +kernel
theorem dX7_does_30 : decode cX7_does 30 = .ok (.bipush 10, 2) := by decide +kernel
theorem dX7_does_32 : decode cX7_does 32 = .ok (.istore 7, 2) := by decide +kernel
theorem dX7_does_34 : decode cX7_does 34 = .ok (.aload_n 0, 1) := by decide +kernel
theorem dX7_does_35 : decode cX7_does 35 = .ok (.getfield 19, 3) := by decide +kernel
theorem dX7_does_38 : decode cX7_does 38 = .ok (.iload_n 2, 1) := by decide +kernel
theorem dX7_does_39 : decode cX7_does 39 = .ok (.iload_n 3, 1) := by decide +kernel
theorem dX7_does_40 : decode cX7_does 40 = .ok (.iload 4, 2) := by decide +kernel
theorem dX7_does_42 : decode cX7_does 42 = .ok (.invokestatic 190, 3) := by decide +kernel
theorem dX7_does_45 : decode cX7_does 45 = .ok (.istore 8, 2) := by decide +kernel
theorem dX7_does_47 : decode cX7_does 47 = .ok (.iload_n 1, 1) := by decide +kernel
theorem dX7_does_48 : decode cX7_does 48 = .ok (.tableswitch 359 1 9 #[52, 96, 122, 157, 178, 202, 239, 263, 315], 52) := by decide +kernel
theorem dX7_does_100 : decode cX7_does 100 = .ok (.iload 8, 2) := by decide +kernel
theorem dX7_does_102 : decode cX7_does 102 = .ok (.ifCond .eq 25, 3) := by decide +kernel
theorem dX7_does_105 : decode cX7_does 105 = .ok (.iload 5, 2) := by decide +kernel
theorem dX7_does_107 : decode cX7_does 107 = .ok (.iconst 2, 1) := by decide +kernel
theorem dX7_does_108 : decode cX7_does 108 = .ok (.if_icmp .gt 19, 3) := by decide +kernel
theorem dX7_does_111 : decode cX7_does 111 = .ok (.aload_n 0, 1) := by decide +kernel
theorem dX7_does_112 : decode cX7_does 112 = .ok (.getfield 19, 3) := by decide +kernel
theorem dX7_does_115 : decode cX7_does 115 = .ok (.iload 7, 2) := by decide +kernel
theorem dX7_does_117 : decode cX7_does 117 = .ok (.iload 4, 2) := by decide +kernel
theorem dX7_does_119 : decode cX7_does 119 = .ok (.iload 5, 2) := by decide +kernel
theorem dX7_does_121 : decode cX7_does 121 = .ok (.invokestatic 214, 3) := by decide +kernel
theorem dX7_does_124 : decode cX7_does 124 = .ok (.ifCond .ne 5, 3) := by decide +kernel
theorem dX7_does_127 : decode cX7_does 127 = .ok (.iconst 0, 1) := by decide +kernel
theorem dX7_does_128 : decode cX7_does 128 = .ok (.ireturn, 1) := by decide +kernel
theorem dX7_does_129 : decode cX7_does 129 = .ok (.aload_n 0, 1) := by decide +kernel
theorem dX7_does_130 : decode cX7_does 130 = .ok (.getfield 19, 3) := by decide +kernel
theorem dX7_does_133 : decode cX7_does 133 = .ok (.iload 7, 2) := by decide +kernel
theorem dX7_does_135 : decode cX7_does 135 = .ok (.iload 4, 2) := by decide +kernel
theorem dX7_does_137 : decode cX7_does 137 = .ok (.iload 5, 2) := by decide +kernel
theorem dX7_does_139 : decode cX7_does 139 = .ok (.invokestatic 217, 3) := by decide +kernel
theorem dX7_does_142 : decode cX7_does 142 = .ok (.iconst 1, 1) := by decide +kernel
theorem dX7_does_143 : decode cX7_does 143 = .ok (.ireturn, 1) := by decide +kernel
theorem dX7_does_144 : decode cX7_does 144 = .ok (.iload 8, 2) := by decide +kernel
theorem dX7_does_146 : decode cX7_does 146 = .ok (.ifCond .eq 8, 3) := by decide +kernel
theorem dX7_does_149 : decode cX7_does 149 = .ok (.iload 5, 2) := by decide +kernel
theorem dX7_does_151 : decode cX7_does 151 = .ok (.ifCond .eq 5, 3) := by decide +kernel
theorem dX7_does_154 : decode cX7_does 154 = .ok (.iconst 0, 1) := by decide +kernel
theorem dX7_does_155 : decode cX7_does 155 = .ok (.ireturn, 1) := by decide +kernel
theorem dX7_does_156 : decode cX7_does 156 = .ok (.aload_n 0, 1) := by decide +kernel
theorem dX7_does_157 : decode cX7_does 157 = .ok (.getfield 19, 3) := by decide +kernel
theorem dX7_does_160 : decode cX7_does 160 = .ok (.iload 7, 2) := by decide +kernel
theorem dX7_does_162 : decode cX7_does 162 = .ok (.iload 4, 2) := by decide +kernel
theorem dX7_does_164 : decode cX7_does 164 = .ok (.invokestatic 209, 3) := by decide +kernel
theorem dX7_does_167 : decode cX7_does 167 = .ok (.pop, 1) := by decide +kernel
theorem dX7_does_168 : decode cX7_does 168 = .ok (.iconst 1, 1) := by decide +kernel
theorem dX7_does_169 : decode cX7_does 169 = .ok (.ireturn, 1) := by decide +kernel
theorem dX7_does_170 : decode cX7_does 170 = .ok (.iload_n 2, 1) := by decide +kernel
theorem dX7_does_171 : decode cX7_does 171 = .ok (.invokestatic 182, 3) := by decide +kernel
theorem dX7_does_174 : decode cX7_does 174 = .ok (.ifCond .eq 14, 3) := by decide +kernel
theorem dX7_does_177 : decode cX7_does 177 = .ok (.iload_n 3, 1) := by decide +kernel
theorem dX7_does_178 : decode cX7_does 178 = .ok (.iload 4, 2) := by decide +kernel
theorem dX7_does_180 : decode cX7_does 180 = .ok (.iload 5, 2) := by decide +kernel
theorem dX7_does_182 : decode cX7_does 182 = .ok (.invokestatic 221, 3) := by decide +kernel
theorem dX7_does_185 : decode cX7_does 185 = .ok (.ifCond .ne 5, 3) := by decide +kernel
theorem dX7_does_188 : decode cX7_does 188 = .ok (.iconst 0, 1) := by decide +kernel
theorem dX7_does_189 : decode cX7_does 189 = .ok (.ireturn, 1) := by decide +kernel
theorem dX7_does_190 : decode cX7_does 190 = .ok (.aload_n 0, 1) := by decide +kernel
theorem dX7_does_191 : decode cX7_does 191 = .ok (.getfield 19, 3) := by decide +kernel
theorem dX7_does_194 : decode cX7_does 194 = .ok (.iload_n 2, 1) := by decide +kernel
theorem dX7_does_195 : decode cX7_does 195 = .ok (.iload_n 3, 1) := by decide +kernel
theorem dX7_does_196 : decode cX7_does 196 = .ok (.iload 4, 2) := by decide +kernel
theorem dX7_does_198 : decode cX7_does 198 = .ok (.iload 5, 2) := by decide +kernel
theorem dX7_does_200 : decode cX7_does 200 = .ok (.invokestatic 111, 3) := by decide +kernel
theorem dX7_does_203 : decode cX7_does 203 = .ok (.iconst 1, 1) := by decide +kernel
theorem dX7_does_204 : decode cX7_does 204 = .ok (.ireturn, 1) := by decide +kernel
theorem dX7_does_205 : decode cX7_does 205 = .ok (.iload_n 2, 1) := by decide +kernel
theorem dX7_does_206 : decode cX7_does 206 = .ok (.iload_n 3, 1) := by decide +kernel
theorem dX7_does_207 : decode cX7_does 207 = .ok (.iadd, 1) := by decide +kernel
theorem dX7_does_208 : decode cX7_does 208 = .ok (.iload 4, 2) := by decide +kernel
theorem dX7_does_210 : decode cX7_does 210 = .ok (.iadd, 1) := by decide +kernel
theorem dX7_does_211 : decode cX7_does 211 = .ok (.ifCond .le 5, 3) := by decide +kernel
theorem dX7_does_214 : decode cX7_does 214 = .ok (.iconst 0, 1) := by decide +kernel
theorem dX7_does_215 : decode cX7_does 215 = .ok (.ireturn, 1) := by decide +kernel
theorem dX7_does_216 : decode cX7_does 216 = .ok (.aload_n 0, 1) := by decide +kernel
theorem dX7_does_217 : decode cX7_does 217 = .ok (.getfield 19, 3) := by decide +kernel
theorem dX7_does_220 : decode cX7_does 220 = .ok (.iconst 2, 1) := by decide +kernel
theorem dX7_does_221 : decode cX7_does 221 = .ok (.iload 5, 2) := by decide +kernel
theorem dX7_does_223 : decode cX7_does 223 = .ok (.iastore, 1) := by decide +kernel
theorem dX7_does_224 : decode cX7_does 224 = .ok (.iconst 1, 1) := by decide +kernel
theorem dX7_does_225 : decode cX7_does 225 = .ok (.ireturn, 1) := by decide +kernel
theorem dX7_does_226 : decode cX7_does 226 = .ok (.iload_n 2, 1) := by decide +kernel
theorem dX7_does_227 : decode cX7_does 227 = .ok (.iload_n 3, 1) := by decide +kernel
theorem dX7_does_228 : decode cX7_does 228 = .ok (.iadd, 1) := by decide +kernel
theorem dX7_does_229 : decode cX7_does 229 = .ok (.iload 4, 2) := by decide +kernel
theorem dX7_does_231 : decode cX7_does 231 = .ok (.iadd, 1) := by decide +kernel
theorem dX7_does_232 : decode cX7_does 232 = .ok (.iload 5, 2) := by decide +kernel
theorem dX7_does_234 : decode cX7_does 234 = .ok (.iadd, 1) := by decide +kernel
theorem dX7_does_235 : decode cX7_does 235 = .ok (.ifCond .le 5, 3) := by decide +kernel
theorem dX7_does_238 : decode cX7_does 238 = .ok (.iconst 0, 1) := by decide +kernel
theorem dX7_does_239 : decode cX7_does 239 = .ok (.ireturn, 1) := by decide +kernel
theorem dX7_does_240 : decode cX7_does 240 = .ok (.aload_n 0, 1) := by decide +kernel
theorem dX7_does_241 : decode cX7_does 241 = .ok (.aload_n 0, 1) := by decide +kernel
theorem dX7_does_242 : decode cX7_does 242 = .ok (.getfield 19, 3) := by decide +kernel
theorem dX7_does_245 : decode cX7_does 245 = .ok (.invokevirtual 224, 3) := by decide +kernel
theorem dX7_does_248 : decode cX7_does 248 = .ok (.iconst 1, 1) := by decide +kernel
theorem dX7_does_249 : decode cX7_does 249 = .ok (.ireturn, 1) := by decide +kernel
theorem dX7_does_250 : decode cX7_does 250 = .ok (.iload_n 2, 1) := by decide +kernel
theorem dX7_does_251 : decode cX7_does 251 = .ok (.invokestatic 182, 3) := by decide +kernel
theorem dX7_does_254 : decode cX7_does 254 = .ok (.ifCond .eq 31, 3) := by decide +kernel
theorem dX7_does_257 : decode cX7_does 257 = .ok (.iload_n 3, 1) := by decide +kernel
theorem dX7_does_258 : decode cX7_does 258 = .ok (.ifCond .ne 27, 3) := by decide +kernel
theorem dX7_does_261 : decode cX7_does 261 = .ok (.aload_n 0, 1) := by decide +kernel
theorem dX7_does_262 : decode cX7_does 262 = .ok (.aload_n 0, 1) := by decide +kernel
theorem dX7_does_263 : decode cX7_does 263 = .ok (.getfield 19, 3) := by decide +kernel
theorem dX7_does_266 : decode cX7_does 266 = .ok (.iload_n 2, 1) := by decide +kernel
theorem dX7_does_267 : decode cX7_does 267 = .ok (.aload_n 0, 1) := by decide +kernel
theorem dX7_does_268 : decode cX7_does 268 = .ok (.getfield 19, 3) := by decide +kernel
theorem dX7_does_271 : decode cX7_does 271 = .ok (.iconst 3, 1) := by decide +kernel
theorem dX7_does_272 : decode cX7_does 272 = .ok (.iaload, 1) := by decide +kernel
theorem dX7_does_273 : decode cX7_does 273 = .ok (.invokevirtual 104, 3) := by decide +kernel
theorem dX7_does_276 : decode cX7_does 276 = .ok (.iload 6, 2) := by decide +kernel
theorem dX7_does_278 : decode cX7_does 278 = .ok (.if_icmp .lt 7, 3) := by decide +kernel
theorem dX7_does_281 : decode cX7_does 281 = .ok (.iconst 1, 1) := by decide +kernel
theorem dX7_does_282 : decode cX7_does 282 = .ok (.goto 4, 3) := by decide +kernel
theorem dX7_does_285 : decode cX7_does 285 = .ok (.iconst 0, 1) := by decide +kernel
theorem dX7_does_286 : decode cX7_does 286 = .ok (.ireturn, 1) := by decide +kernel
theorem dX7_does_287 : decode cX7_does 287 = .ok (.iload_n 2, 1) := by decide +kernel
theorem dX7_does_288 : decode cX7_does 288 = .ok (.iload_n 3, 1) := by decide +kernel
theorem dX7_does_289 : decode cX7_does 289 = .ok (.iadd, 1) := by decide +kernel
theorem dX7_does_290 : decode cX7_does 290 = .ok (.ifCond .ne 19, 3) := by decide +kernel
theorem dX7_does_293 : decode cX7_does 293 = .ok (.aload_n 0, 1) := by decide +kernel
theorem dX7_does_294 : decode cX7_does 294 = .ok (.getfield 19, 3) := by decide +kernel
theorem dX7_does_297 : decode cX7_does 297 = .ok (.invokestatic 175, 3) := by decide +kernel
theorem dX7_does_300 : decode cX7_does 300 = .ok (.iload 6, 2) := by decide +kernel
theorem dX7_does_302 : decode cX7_does 302 = .ok (.if_icmp .gt 7, 3) := by decide +kernel
theorem dX7_does_305 : decode cX7_does 305 = .ok (.iconst 1, 1) := by decide +kernel
theorem dX7_does_306 : decode cX7_does 306 = .ok (.goto 4, 3) := by decide +kernel
theorem dX7_does_309 : decode cX7_does 309 = .ok (.iconst 0, 1) := by decide +kernel
theorem dX7_does_310 : decode cX7_does 310 = .ok (.ireturn, 1) := by decide +kernel
theorem dX7_does_311 : decode cX7_does 311 = .ok (.iload_n 2, 1) := by decide +kernel
theorem dX7_does_312 : decode cX7_does 312 = .ok (.invokestatic 182, 3) := by decide +kernel
theorem dX7_does_315 : decode cX7_does 315 = .ok (.ifCond .eq 46, 3) := by decide +kernel
theorem dX7_does_318 : decode cX7_does 318 = .ok (.iload_n 3, 1) := by decide +kernel
theorem dX7_does_319 : decode cX7_does 319 = .ok (.aload_n 0, 1) := by decide +kernel
theorem dX7_does_320 : decode cX7_does 320 = .ok (.aload_n 0, 1) := by decide +kernel
theorem dX7_does_321 : decode cX7_does 321 = .ok (.getfield 19, 3) := by decide +kernel
theorem dX7_does_324 : decode cX7_does 324 = .ok (.iload_n 2, 1) := by decide +kernel
theorem dX7_does_325 : decode cX7_does 325 = .ok (.aload_n 0, 1) := by decide +kernel
theorem dX7_does_326 : decode cX7_does 326 = .ok (.getfield 19, 3) := by decide +kernel
theorem dX7_does_329 : decode cX7_does 329 = .ok (.iconst 3, 1) := by decide +kernel
theorem dX7_does_330 : decode cX7_does 330 = .ok (.iaload, 1) := by decide +kernel
theorem dX7_does_331 : decode cX7_does 331 = .ok (.invokevirtual 104, 3) := by decide +kernel
theorem dX7_does_334 : decode cX7_does 334 = .ok (.if_icmp .ge 27, 3) := by decide +kernel
theorem dX7_does_337 : decode cX7_does 337 = .ok (.aload_n 0, 1) := by decide +kernel
theorem dX7_does_338 : decode cX7_does 338 = .ok (.getfield 38, 3) := by decide +kernel
theorem dX7_does_341 : decode cX7_does 341 = .ok (.iload_n 3, 1) := by decide +kernel
theorem dX7_does_342 : decode cX7_does 342 = .ok (.iconst 1, 1) := by decide +kernel
theorem dX7_does_343 : decode cX7_does 343 = .ok (.iadd, 1) := by decide +kernel
theorem dX7_does_344 : decode cX7_does 344 = .ok (.iaload, 1) := by decide +kernel
theorem dX7_does_345 : decode cX7_does 345 = .ok (.aload_n 0, 1) := by decide +kernel
theorem dX7_does_346 : decode cX7_does 346 = .ok (.getfield 38, 3) := by decide +kernel
theorem dX7_does_349 : decode cX7_does 349 = .ok (.iload_n 3, 1) := by decide +kernel
theorem dX7_does_350 : decode cX7_does 350 = .ok (.iaload, 1) := by decide +kernel
theorem dX7_does_351 : decode cX7_does 351 = .ok (.isub, 1) := by decide +kernel
theorem dX7_does_352 : decode cX7_does 352 = .ok (.iload 6, 2) := by decide +kernel
theorem dX7_does_354 : decode cX7_does 354 = .ok (.if_icmp .ne 7, 3) := by decide +kernel
theorem dX7_does_357 : decode cX7_does 357 = .ok (.iconst 1, 1) := by decide +kernel
theorem dX7_does_358 : decode cX7_does 358 = .ok (.goto 4, 3) := by decide +kernel
theorem dX7_does_361 : decode cX7_does 361 = .ok (.iconst 0, 1) := by decide +kernel
theorem dX7_does_362 : decode cX7_does 362 = .ok (.ireturn, 1) := by decide +kernel
theorem dX7_does_363 : decode cX7_does 363 = .ok (.iload 8, 2) := by decide +kernel
theorem dX7_does_365 : decode cX7_does 365 = .ok (.ifCond .eq 40, 3) := by decide +kernel
theorem dX7_does_368 : decode cX7_does 368 = .ok (.iload 5, 2) := by decide +kernel
theorem dX7_does_370 : decode cX7_does 370 = .ok (.iconst 3, 1) := by decide +kernel
theorem dX7_does_371 : decode cX7_does 371 = .ok (.if_icmp .ge 34, 3) := by decide +kernel
theorem dX7_does_374 : decode cX7_does 374 = .ok (.aload_n 0, 1) := by decide +kernel
theorem dX7_does_375 : decode cX7_does 375 = .ok (.getfield 19, 3) := by decide +kernel
theorem dX7_does_378 : decode cX7_does 378 = .ok (.iload 7, 2) := by decide +kernel
theorem dX7_does_380 : decode cX7_does 380 = .ok (.iload 4, 2) := by decide +kernel
theorem dX7_does_382 : decode cX7_does 382 = .ok (.invokestatic 88, 3) := by decide +kernel
theorem dX7_does_385 : decode cX7_does 385 = .ok (.iload 5, 2) := by decide +kernel
theorem dX7_does_387 : decode cX7_does 387 = .ok (.iconst 2, 1) := by decide +kernel
theorem dX7_does_388 : decode cX7_does 388 = .ok (.if_icmp .ne 8, 3) := by decide +kernel
theorem dX7_does_391 : decode cX7_does 391 = .ok (.bipush (-9), 2) := by decide +kernel
theorem dX7_does_393 : decode cX7_does 393 = .ok (.goto 5, 3) := by decide +kernel
theorem dX7_does_396 : decode cX7_does 396 = .ok (.iload 5, 2) := by decide +kernel
theorem dX7_does_398 : decode cX7_does 398 = .ok (.if_icmp .ne 7, 3) := by decide +kernel
theorem dX7_does_401 : decode cX7_does 401 = .ok (.iconst 1, 1) := by decide +kernel
theorem dX7_does_402 : decode cX7_does 402 = .ok (.goto 4, 3) := by decide +kernel
theorem dX7_does_405 : decode cX7_does 405 = .ok (.iconst 0, 1) := by decide +kernel
theorem dX7_does_406 : decode cX7_does 406 = .ok (.ireturn, 1) := by decide +kernel
theorem dX7_does_407 : decode cX7_does 407 = .ok (.iconst 0, 1) := by decide +kernel
theorem dX7_does_408 : decode cX7_does 408 = .ok (.ireturn, 1) := by decide +kernel
def FX7_does (T : zT) (a0 : Nat) (p0 : Int32) (p1 : Int32) (p2 : Int32) (p3 : Int32) (p4 : Int32) (h : zH) : Option (Int32 × zH) := (zo h a0 7).bind fun _ => zJ (fun (x1 : Int32) (x2 : Int32) => (zgr h a0 7 6).bind fun x4 => (FX7_isMark T x4 p1 p2 p3 h).bind fun x6 => if p0 = 1 then (zJ (fun (u9 : Unit) => some (0, h)) (fun J7 => if x6 = 0 then (J7 ()) else (if 2 < p4 then (J7 ()) else ((zgr h a0 7 6).bind fun x8 => (FX7_canDecide T x8 x2 p3 p4 h).bind fun x10 => if x10 = 0 then (J7 ()) else ((zgr h a0 7 6).bind fun x11 => (FX7_decideOn T x11 x2 p3 p4 h).bind fun h13 => some (1, h13)))))) else (if p0 = 2 then (zJ (fun (u9 : Unit) => some (0, h)) (fun J14 => if x6 = 0 then (J14 ()) else (if p4 = 0 then ((zgr h a0 7 6).bind fun x15 => zb2 (FX7_eraseOn T x15 x2 p3 h) fun x17 h18 => some (1, h18)) else (J14 ())))) else (if p0 = 3 then (zJ (fun (u9 : Unit) => some (0, h)) (fun J19 => (FX7_isLetter T p1 h).bind fun x21 => if x21 = 0 then (J19 ()) else ((FX7_isPen T p2 p3 p4 h).bind fun x23 => if x23 = 0 then (J19 ()) else ((zgr h a0 7 6).bind fun x24 => (FX7_penOn T x24 p1 p2 p3 p4 h).bind fun h26 => some (1, h26))))) else (if p0 = 4 then (if ((p1 + p2) + p3) ≤ 0 then ((zgr h a0 7 6).bind fun x27 => (zas T h x27 2 p4).bind fun h28 => some (1, h28)) else (some (0, h))) else (if p0 = 5 then (if (((p1 + p2) + p3) + p4) ≤ 0 then ((zgr h a0 7 6).bind fun x29 => (FX7_turnOn T a0 x29 h).bind fun h31 => some (1, h31)) else (some (0, h))) else (if p0 = 6 then (zJ (fun (x32 : Int32) (h33 : zH) => if x32 = 0 ∨ x32 = 1 then some (x32, h33) else none) (fun J34 => zJ (fun (h35 : zH) => J34 0 h35) (fun J36 => (FX7_isLetter T p1 h).bind fun x38 => if x38 = 0 then (J36 h) else (if p2 = 0 then ((zgr h a0 7 6).bind fun x39 => (zgr h a0 7 6).bind fun x40 => (zai T h x40 3).bind fun x41 => zb2 (FX7_layWords T a0 x39 p1 x41 h) fun x43 h44 => if x43 < x1 then (J36 h44) else (J34 1 h44)) else (J36 h))))) else (if p0 = 7 then (zJ (fun (x45 : Int32) => if x45 = 0 ∨ x45 = 1 then some (x45, h) else none) (fun J46 => zJ (fun (u9 : Unit) => J46 0) (fun J47 => if (p1 + p2) = 0 then ((zgr h a0 7 6).bind fun x48 => (FX7_doubts T x48 h).bind fun x50 => if x1 < x50 then (J47 ()) else (J46 1)) else (J47 ())))) else (if p0 = 8 then (zJ (fun (x51 : Int32) (h52 : zH) => if x51 = 0 ∨ x51 = 1 then some (x51, h52) else none) (fun J53 => zJ (fun (h54 : zH) => J53 0 h54) (fun J55 => (FX7_isLetter T p1 h).bind fun x57 => if x57 = 0 then (J55 h) else ((zgr h a0 7 6).bind fun x58 => (zgr h a0 7 6).bind fun x59 => (zai T h x59 3).bind fun x60 => zb2 (FX7_layWords T a0 x58 p1 x60 h) fun x62 h63 => if x62 ≤ p2 then (J55 h63) else ((zgr h63 a0 7 13).bind fun x64 => (zai T h63 x64 (p2 + 1)).bind fun x65 => (zgr h63 a0 7 13).bind fun x66 => (zai T h63 x66 p2).bind fun x67 => if (x65 - x67) = x1 then (J53 1 h63) else (J55 h63)))))) else (if p0 = 9 then (zJ (fun (x68 : Int32) => if x68 = 0 ∨ x68 = 1 then some (x68, h) else none) (fun J69 => zJ (fun (u9 : Unit) => J69 0) (fun J70 => if x6 = 0 then (J70 ()) else (if 3 ≤ p4 then (J70 ()) else (zJ (fun (x71 : Int32) (x72 : Int32) => if x72 = x71 then (J69 1) else (J70 ())) (fun J73 => (zgr h a0 7 6).bind fun x74 => (FX7_belongs T x74 x2 p3 h).bind fun x76 => if p4 = 2 then (J73 (-9 : Int32) x76) else (J73 p4 x76))))))) else (some (0, h))))))))))) (fun J3 => zJ (fun (x77 : Int32) => J3 x77 10) (fun J78 => if 9 ≤ p1 then (J78 ((10 * p3) + p4)) else (if 9 ≤ p2 then (J78 ((10 * p3) + p4)) else ((FX7_cellAt T p1 p2 h).bind fun x80 => J3 ((10 * p3) + p4) x80))))
set_option maxHeartbeats 4000000 in
set_option maxRecDepth 100000 in
theorem BX7_does {X : zX} (C : zC X cX7_does 9 RX7 "does" (some .boolean) 6 149) {al : Bool} {hi : Nat} {h : zH} {a0 : Nat} {p0 : Int32} {p1 : Int32} {p2 : Int32} {p3 : Int32} {p4 : Int32} {r9 : (Int32 × zH)} (hf : FX7_does (xT X) a0 p0 p1 p2 p3 p4 h = some r9) : zW X 9 (zZ X al (some (.int r9.1), hi, r9.2)) 0 0 al hi h 0 [(0, .ref a0), (1, .int p0), (2, .int p1), (3, .int p2), (4, .int p3), (5, .int p4)] [] := by
  unfold FX7_does at hf
  obtain ⟨_, _, hf⟩ := zbind hf
  refine z_join (P := fun J => ∀ (x1 : Int32) (x2 : Int32), J x1 x2 = some r9 → zW X 9 (zZ X al (some (.int r9.1), hi, r9.2)) 0 0 al hi h 32 [(0, .ref a0), (1, .int p0), (2, .int p1), (3, .int p2), (4, .int p3), (5, .int p4), (6, .int x1)] [.int x2]) hf ?_ ?_
  · intro x1 x2 hf
    refine z_istore C dX7_does_32 (by decide) (lv' := [(7, .int x2), (0, .ref a0), (1, .int p0), (2, .int p1), (3, .int p2), (4, .int p3), (5, .int p4), (6, .int x1)]) rfl ?_
    refine z_aload_n C dX7_does_34 1 rfl rfl ?_
    refine z_getR C fl_X7_19 dX7_does_35 hf (fun x4 hf => ?_)
    refine z_iload_n C dX7_does_38 3 rfl rfl ?_
    refine z_iload_n C dX7_does_39 4 rfl rfl ?_
    refine z_iload C dX7_does_40 5 rfl ?_
    obtain ⟨x6, g5, hf⟩ := zbind hf
    refine z_callS (kc' := 0) (ks' := 0) C (MX7_isMark (xl X) (xD X) (xT X) (xlo X) al hi g5) cw_X7_190 ys_X7_isMark dX7_does_42 rfl (by decide) ⟨rfl, rfl⟩ (Nat.le_of_ble_eq_true rfl) (st := []) rfl ?_
    refine z_istore C dX7_does_45 (by decide) (lv' := [(8, .int x6), (7, .int x2), (0, .ref a0), (1, .int p0), (2, .int p1), (3, .int p2), (4, .int p3), (5, .int p4), (6, .int x1)]) rfl ?_
    refine z_iload_n C dX7_does_47 3 rfl rfl ?_
    refine z_ite hf (fun c hf => ?_) (fun c1 hf => ?_)
    · refine z_tswIn (k := 1) (off := 52) (tgt := 100) C c dX7_does_48 (by decide) (by decide) ?_
      refine z_join (P := fun J => ∀ (u9 : Unit), J u9 = some r9 → zW X 9 (zZ X al (some (.int r9.1), hi, r9.2)) 0 0 al hi h 127 [] []) hf ?_ ?_
      · intro u9 hf
        refine z_iconst C (v := 0) dX7_does_127 (by decide) ?_
        exact z_zreturn C dX7_does_128 (Or.inl rfl) (by cases hf; rfl)
      · intro J7 kJ7 hf
        refine z_iload C dX7_does_100 0 rfl ?_
        refine z_if_eq (tgt := 127) C dX7_does_102 (by decide) hf (fun hf => ?_) (fun hf => ?_)
        · refine z_sub [] rfl ?_
          exact kJ7 _ hf
        · refine z_iload C dX7_does_105 7 rfl ?_
          refine z_iconst C (v := 2) dX7_does_107 (by decide) ?_
          refine z_icmp_gt (tgt := 127) C dX7_does_108 (by decide) hf (fun hf => ?_) (fun hf => ?_)
          · refine z_sub [] rfl ?_
            exact kJ7 _ hf
          · refine z_aload_n C dX7_does_111 2 rfl rfl ?_
            refine z_getR C fl_X7_19 dX7_does_112 hf (fun x8 hf => ?_)
            refine z_iload C dX7_does_115 1 rfl ?_
            refine z_iload C dX7_does_117 6 rfl ?_
            refine z_iload C dX7_does_119 7 rfl ?_
            obtain ⟨x10, g9, hf⟩ := zbind hf
            refine z_callS (kc' := 0) (ks' := 0) C (MX7_canDecide (xl X) (xD X) (xT X) (xlo X) al hi g9) cw_X7_214 ys_X7_canDecide dX7_does_121 rfl (by decide) ⟨rfl, rfl⟩ (Nat.le_of_ble_eq_true rfl) (st := []) rfl ?_
            refine z_if_ne (tgt := 129) C dX7_does_124 (by decide) hf (fun hf => ?_) (fun hf => ?_)
            · refine z_aload_n C dX7_does_129 2 rfl rfl ?_
              refine z_getR C fl_X7_19 dX7_does_130 hf (fun x11 hf => ?_)
              refine z_iload C dX7_does_133 1 rfl ?_
              refine z_iload C dX7_does_135 6 rfl ?_
              refine z_iload C dX7_does_137 7 rfl ?_
              obtain ⟨h13, g12, hf⟩ := zbind hf
              refine z_callS (kc' := 0) (ks' := 0) C (MX7_decideOn (xl X) (xD X) (xT X) (xlo X) al hi g12) cw_X7_217 ys_X7_decideOn dX7_does_139 rfl (by decide) ⟨rfl, rfl⟩ (Nat.le_of_ble_eq_true rfl) (st := []) rfl ?_
              refine z_iconst C (v := 1) dX7_does_142 (by decide) ?_
              exact z_zreturn C dX7_does_143 (Or.inr rfl) (by cases hf; rfl)
            · refine z_sub [] rfl ?_
              exact kJ7 _ hf
    · refine z_ite hf (fun c hf => ?_) (fun c2 hf => ?_)
      · refine z_tswIn (k := 2) (off := 96) (tgt := 144) C c dX7_does_48 (by decide) (by decide) ?_
        refine z_join (P := fun J => ∀ (u9 : Unit), J u9 = some r9 → zW X 9 (zZ X al (some (.int r9.1), hi, r9.2)) 0 0 al hi h 154 [] []) hf ?_ ?_
        · intro u9 hf
          refine z_iconst C (v := 0) dX7_does_154 (by decide) ?_
          exact z_zreturn C dX7_does_155 (Or.inl rfl) (by cases hf; rfl)
        · intro J14 kJ14 hf
          refine z_iload C dX7_does_144 0 rfl ?_
          refine z_if_eq (tgt := 154) C dX7_does_146 (by decide) hf (fun hf => ?_) (fun hf => ?_)
          · refine z_sub [] rfl ?_
            exact kJ14 _ hf
          · refine z_iload C dX7_does_149 7 rfl ?_
            refine z_if_eq (tgt := 156) C dX7_does_151 (by decide) hf (fun hf => ?_) (fun hf => ?_)
            · refine z_aload_n C dX7_does_156 2 rfl rfl ?_
              refine z_getR C fl_X7_19 dX7_does_157 hf (fun x15 hf => ?_)
              refine z_iload C dX7_does_160 1 rfl ?_
              refine z_iload C dX7_does_162 6 rfl ?_
              obtain ⟨x17, h18, g16, hf⟩ := zbind2 hf
              refine z_callS (kc' := 0) (ks' := 0) C (MX7_eraseOn (xl X) (xD X) (xT X) (xlo X) al hi g16) cw_X7_209 ys_X7_eraseOn dX7_does_164 rfl (by decide) ⟨rfl, rfl⟩ (Nat.le_of_ble_eq_true rfl) (st := []) rfl ?_
              refine z_pop C dX7_does_167 rfl ?_
              refine z_iconst C (v := 1) dX7_does_168 (by decide) ?_
              exact z_zreturn C dX7_does_169 (Or.inr rfl) (by cases hf; rfl)
            · refine z_sub [] rfl ?_
              exact kJ14 _ hf
      · refine z_ite hf (fun c hf => ?_) (fun c3 hf => ?_)
        · refine z_tswIn (k := 3) (off := 122) (tgt := 170) C c dX7_does_48 (by decide) (by decide) ?_
          refine z_join (P := fun J => ∀ (u9 : Unit), J u9 = some r9 → zW X 9 (zZ X al (some (.int r9.1), hi, r9.2)) 0 0 al hi h 188 [] []) hf ?_ ?_
          · intro u9 hf
            refine z_iconst C (v := 0) dX7_does_188 (by decide) ?_
            exact z_zreturn C dX7_does_189 (Or.inl rfl) (by cases hf; rfl)
          · intro J19 kJ19 hf
            refine z_iload_n C dX7_does_170 4 rfl rfl ?_
            obtain ⟨x21, g20, hf⟩ := zbind hf
            refine z_callS (kc' := 0) (ks' := 0) C (MX7_isLetter (xl X) (xD X) (xT X) (xlo X) al hi g20) cw_X7_182 ys_X7_isLetter dX7_does_171 rfl (by decide) ⟨rfl, rfl⟩ (Nat.le_of_ble_eq_true rfl) (st := []) rfl ?_
            refine z_if_eq (tgt := 188) C dX7_does_174 (by decide) hf (fun hf => ?_) (fun hf => ?_)
            · refine z_sub [] rfl ?_
              exact kJ19 _ hf
            · refine z_iload_n C dX7_does_177 5 rfl rfl ?_
              refine z_iload C dX7_does_178 6 rfl ?_
              refine z_iload C dX7_does_180 7 rfl ?_
              obtain ⟨x23, g22, hf⟩ := zbind hf
              refine z_callS (kc' := 0) (ks' := 0) C (MX7_isPen (xl X) (xD X) (xT X) (xlo X) al hi g22) cw_X7_221 ys_X7_isPen dX7_does_182 rfl (by decide) ⟨rfl, rfl⟩ (Nat.le_of_ble_eq_true rfl) (st := []) rfl ?_
              refine z_if_ne (tgt := 190) C dX7_does_185 (by decide) hf (fun hf => ?_) (fun hf => ?_)
              · refine z_aload_n C dX7_does_190 2 rfl rfl ?_
                refine z_getR C fl_X7_19 dX7_does_191 hf (fun x24 hf => ?_)
                refine z_iload_n C dX7_does_194 4 rfl rfl ?_
                refine z_iload_n C dX7_does_195 5 rfl rfl ?_
                refine z_iload C dX7_does_196 6 rfl ?_
                refine z_iload C dX7_does_198 7 rfl ?_
                obtain ⟨h26, g25, hf⟩ := zbind hf
                refine z_callS (kc' := 0) (ks' := 0) C (MX7_penOn (xl X) (xD X) (xT X) (xlo X) al hi g25) cw_X7_111 ys_X7_penOn dX7_does_200 rfl (by decide) ⟨rfl, rfl⟩ (Nat.le_of_ble_eq_true rfl) (st := []) rfl ?_
                refine z_iconst C (v := 1) dX7_does_203 (by decide) ?_
                exact z_zreturn C dX7_does_204 (Or.inr rfl) (by cases hf; rfl)
              · refine z_sub [] rfl ?_
                exact kJ19 _ hf
        · refine z_ite hf (fun c hf => ?_) (fun c4 hf => ?_)
          · refine z_tswIn (k := 4) (off := 157) (tgt := 205) C c dX7_does_48 (by decide) (by decide) ?_
            refine z_iload_n C dX7_does_205 4 rfl rfl ?_
            refine z_iload_n C dX7_does_206 5 rfl rfl ?_
            refine z_iadd C dX7_does_207 ?_
            refine z_iload C dX7_does_208 6 rfl ?_
            refine z_iadd C dX7_does_210 ?_
            refine z_if_le (tgt := 216) C dX7_does_211 (by decide) hf (fun hf => ?_) (fun hf => ?_)
            · refine z_aload_n C dX7_does_216 2 rfl rfl ?_
              refine z_getR C fl_X7_19 dX7_does_217 hf (fun x27 hf => ?_)
              refine z_iconst C (v := 2) dX7_does_220 (by decide) ?_
              refine z_iload C dX7_does_221 7 rfl ?_
              refine z_iastore C dX7_does_223 hf (fun h28 hf => ?_)
              refine z_iconst C (v := 1) dX7_does_224 (by decide) ?_
              exact z_zreturn C dX7_does_225 (Or.inr rfl) (by cases hf; rfl)
            · refine z_iconst C (v := 0) dX7_does_214 (by decide) ?_
              exact z_zreturn C dX7_does_215 (Or.inl rfl) (by cases hf; rfl)
          · refine z_ite hf (fun c hf => ?_) (fun c5 hf => ?_)
            · refine z_tswIn (k := 5) (off := 178) (tgt := 226) C c dX7_does_48 (by decide) (by decide) ?_
              refine z_iload_n C dX7_does_226 4 rfl rfl ?_
              refine z_iload_n C dX7_does_227 5 rfl rfl ?_
              refine z_iadd C dX7_does_228 ?_
              refine z_iload C dX7_does_229 6 rfl ?_
              refine z_iadd C dX7_does_231 ?_
              refine z_iload C dX7_does_232 7 rfl ?_
              refine z_iadd C dX7_does_234 ?_
              refine z_if_le (tgt := 240) C dX7_does_235 (by decide) hf (fun hf => ?_) (fun hf => ?_)
              · refine z_aload_n C dX7_does_240 2 rfl rfl ?_
                refine z_aload_n C dX7_does_241 2 rfl rfl ?_
                refine z_getR C fl_X7_19 dX7_does_242 hf (fun x29 hf => ?_)
                obtain ⟨h31, g30, hf⟩ := zbind hf
                refine z_callV (kc' := 0) (ks' := 0) C (MX7_turnOn (xl X) (xD X) (xT X) (xlo X) al hi g30) (OX7_turnOn g30) rfl cw_X7_224 yv_X7_turnOn dX7_does_245 rfl (by decide) ⟨rfl, rfl⟩ (Nat.le_of_ble_eq_true rfl) (st := []) rfl ?_
                refine z_iconst C (v := 1) dX7_does_248 (by decide) ?_
                exact z_zreturn C dX7_does_249 (Or.inr rfl) (by cases hf; rfl)
              · refine z_iconst C (v := 0) dX7_does_238 (by decide) ?_
                exact z_zreturn C dX7_does_239 (Or.inl rfl) (by cases hf; rfl)
            · refine z_ite hf (fun c hf => ?_) (fun c6 hf => ?_)
              · refine z_tswIn (k := 6) (off := 202) (tgt := 250) C c dX7_does_48 (by decide) (by decide) ?_
                refine z_join (P := fun J => ∀ (x32 : Int32) (h33 : zH), J x32 h33 = some r9 → zW X 9 (zZ X al (some (.int r9.1), hi, r9.2)) 0 0 al hi h33 286 [] [.int x32]) hf ?_ ?_
                · intro x32 h33 hf
                  refine z_ite hf (fun c hf => ?_) (fun c hf => nomatch hf)
                  exact z_zreturn C dX7_does_286 c (by cases hf; rfl)
                · intro J34 kJ34 hf
                  refine z_join (P := fun J => ∀ (h35 : zH), J h35 = some r9 → zW X 9 (zZ X al (some (.int r9.1), hi, r9.2)) 0 0 al hi h35 285 [] []) hf ?_ ?_
                  · intro h35 hf
                    refine z_iconst C (v := 0) dX7_does_285 (by decide) ?_
                    exact kJ34 _ _ hf
                  · intro J36 kJ36 hf
                    refine z_iload_n C dX7_does_250 4 rfl rfl ?_
                    obtain ⟨x38, g37, hf⟩ := zbind hf
                    refine z_callS (kc' := 0) (ks' := 0) C (MX7_isLetter (xl X) (xD X) (xT X) (xlo X) al hi g37) cw_X7_182 ys_X7_isLetter dX7_does_251 rfl (by decide) ⟨rfl, rfl⟩ (Nat.le_of_ble_eq_true rfl) (st := []) rfl ?_
                    refine z_if_eq (tgt := 285) C dX7_does_254 (by decide) hf (fun hf => ?_) (fun hf => ?_)
                    · refine z_sub [] rfl ?_
                      exact kJ36 _ hf
                    · refine z_iload_n C dX7_does_257 5 rfl rfl ?_
                      refine z_if_ne (tgt := 285) C dX7_does_258 (by decide) hf (fun hf => ?_) (fun hf => ?_)
                      · refine z_sub [] rfl ?_
                        exact kJ36 _ hf
                      · refine z_aload_n C dX7_does_261 2 rfl rfl ?_
                        refine z_aload_n C dX7_does_262 2 rfl rfl ?_
                        refine z_getR C fl_X7_19 dX7_does_263 hf (fun x39 hf => ?_)
                        refine z_iload_n C dX7_does_266 4 rfl rfl ?_
                        refine z_aload_n C dX7_does_267 2 rfl rfl ?_
                        refine z_getR C fl_X7_19 dX7_does_268 hf (fun x40 hf => ?_)
                        refine z_iconst C (v := 3) dX7_does_271 (by decide) ?_
                        refine z_iaload C dX7_does_272 hf (fun x41 hf => ?_)
                        obtain ⟨x43, h44, g42, hf⟩ := zbind2 hf
                        refine z_callV (kc' := 0) (ks' := 0) C (MX7_layWords (xl X) (xD X) (xT X) (xlo X) al hi g42) (OX7_layWords g42) rfl cw_X7_104 yv_X7_layWords dX7_does_273 rfl (by decide) ⟨rfl, rfl⟩ (Nat.le_of_ble_eq_true rfl) (st := []) rfl ?_
                        refine z_iload C dX7_does_276 8 rfl ?_
                        refine z_icmp_lt (tgt := 285) C dX7_does_278 (by decide) hf (fun hf => ?_) (fun hf => ?_)
                        · refine z_sub [] rfl ?_
                          exact kJ36 _ hf
                        · refine z_iconst C (v := 1) dX7_does_281 (by decide) ?_
                          refine z_goto (tgt := 286) C dX7_does_282 (by decide) ?_
                          refine z_sub [] rfl ?_
                          exact kJ34 _ _ hf
              · refine z_ite hf (fun c hf => ?_) (fun c7 hf => ?_)
                · refine z_tswIn (k := 7) (off := 239) (tgt := 287) C c dX7_does_48 (by decide) (by decide) ?_
                  refine z_join (P := fun J => ∀ (x45 : Int32), J x45 = some r9 → zW X 9 (zZ X al (some (.int r9.1), hi, r9.2)) 0 0 al hi h 310 [] [.int x45]) hf ?_ ?_
                  · intro x45 hf
                    refine z_ite hf (fun c hf => ?_) (fun c hf => nomatch hf)
                    exact z_zreturn C dX7_does_310 c (by cases hf; rfl)
                  · intro J46 kJ46 hf
                    refine z_join (P := fun J => ∀ (u9 : Unit), J u9 = some r9 → zW X 9 (zZ X al (some (.int r9.1), hi, r9.2)) 0 0 al hi h 309 [] []) hf ?_ ?_
                    · intro u9 hf
                      refine z_iconst C (v := 0) dX7_does_309 (by decide) ?_
                      exact kJ46 _ hf
                    · intro J47 kJ47 hf
                      refine z_iload_n C dX7_does_287 4 rfl rfl ?_
                      refine z_iload_n C dX7_does_288 5 rfl rfl ?_
                      refine z_iadd C dX7_does_289 ?_
                      refine z_if_ne (tgt := 309) C dX7_does_290 (by decide) hf (fun hf => ?_) (fun hf => ?_)
                      · refine z_sub [] rfl ?_
                        exact kJ47 _ hf
                      · refine z_aload_n C dX7_does_293 2 rfl rfl ?_
                        refine z_getR C fl_X7_19 dX7_does_294 hf (fun x48 hf => ?_)
                        obtain ⟨x50, g49, hf⟩ := zbind hf
                        refine z_callS (kc' := 0) (ks' := 0) C (MX7_doubts (xl X) (xD X) (xT X) (xlo X) al hi g49) cw_X7_175 ys_X7_doubts dX7_does_297 rfl (by decide) ⟨rfl, rfl⟩ (Nat.le_of_ble_eq_true rfl) (st := []) rfl ?_
                        refine z_iload C dX7_does_300 8 rfl ?_
                        refine z_icmp_gt (tgt := 309) C dX7_does_302 (by decide) hf (fun hf => ?_) (fun hf => ?_)
                        · refine z_sub [] rfl ?_
                          exact kJ47 _ hf
                        · refine z_iconst C (v := 1) dX7_does_305 (by decide) ?_
                          refine z_goto (tgt := 310) C dX7_does_306 (by decide) ?_
                          refine z_sub [] rfl ?_
                          exact kJ46 _ hf
                · refine z_ite hf (fun c hf => ?_) (fun c8 hf => ?_)
                  · refine z_tswIn (k := 8) (off := 263) (tgt := 311) C c dX7_does_48 (by decide) (by decide) ?_
                    refine z_join (P := fun J => ∀ (x51 : Int32) (h52 : zH), J x51 h52 = some r9 → zW X 9 (zZ X al (some (.int r9.1), hi, r9.2)) 0 0 al hi h52 362 [] [.int x51]) hf ?_ ?_
                    · intro x51 h52 hf
                      refine z_ite hf (fun c hf => ?_) (fun c hf => nomatch hf)
                      exact z_zreturn C dX7_does_362 c (by cases hf; rfl)
                    · intro J53 kJ53 hf
                      refine z_join (P := fun J => ∀ (h54 : zH), J h54 = some r9 → zW X 9 (zZ X al (some (.int r9.1), hi, r9.2)) 0 0 al hi h54 361 [] []) hf ?_ ?_
                      · intro h54 hf
                        refine z_iconst C (v := 0) dX7_does_361 (by decide) ?_
                        exact kJ53 _ _ hf
                      · intro J55 kJ55 hf
                        refine z_iload_n C dX7_does_311 4 rfl rfl ?_
                        obtain ⟨x57, g56, hf⟩ := zbind hf
                        refine z_callS (kc' := 0) (ks' := 0) C (MX7_isLetter (xl X) (xD X) (xT X) (xlo X) al hi g56) cw_X7_182 ys_X7_isLetter dX7_does_312 rfl (by decide) ⟨rfl, rfl⟩ (Nat.le_of_ble_eq_true rfl) (st := []) rfl ?_
                        refine z_if_eq (tgt := 361) C dX7_does_315 (by decide) hf (fun hf => ?_) (fun hf => ?_)
                        · refine z_sub [] rfl ?_
                          exact kJ55 _ hf
                        · refine z_iload_n C dX7_does_318 5 rfl rfl ?_
                          refine z_aload_n C dX7_does_319 2 rfl rfl ?_
                          refine z_aload_n C dX7_does_320 2 rfl rfl ?_
                          refine z_getR C fl_X7_19 dX7_does_321 hf (fun x58 hf => ?_)
                          refine z_iload_n C dX7_does_324 4 rfl rfl ?_
                          refine z_aload_n C dX7_does_325 2 rfl rfl ?_
                          refine z_getR C fl_X7_19 dX7_does_326 hf (fun x59 hf => ?_)
                          refine z_iconst C (v := 3) dX7_does_329 (by decide) ?_
                          refine z_iaload C dX7_does_330 hf (fun x60 hf => ?_)
                          obtain ⟨x62, h63, g61, hf⟩ := zbind2 hf
                          refine z_callV (kc' := 0) (ks' := 0) C (MX7_layWords (xl X) (xD X) (xT X) (xlo X) al hi g61) (OX7_layWords g61) rfl cw_X7_104 yv_X7_layWords dX7_does_331 rfl (by decide) ⟨rfl, rfl⟩ (Nat.le_of_ble_eq_true rfl) (st := [.int p2]) rfl ?_
                          refine z_icmp_ge (tgt := 361) C dX7_does_334 (by decide) hf (fun hf => ?_) (fun hf => ?_)
                          · refine z_sub [] rfl ?_
                            exact kJ55 _ hf
                          · refine z_aload_n C dX7_does_337 2 rfl rfl ?_
                            refine z_getR C fl_X7_38 dX7_does_338 hf (fun x64 hf => ?_)
                            refine z_iload_n C dX7_does_341 5 rfl rfl ?_
                            refine z_iconst C (v := 1) dX7_does_342 (by decide) ?_
                            refine z_iadd C dX7_does_343 ?_
                            refine z_iaload C dX7_does_344 hf (fun x65 hf => ?_)
                            refine z_aload_n C dX7_does_345 2 rfl rfl ?_
                            refine z_getR C fl_X7_38 dX7_does_346 hf (fun x66 hf => ?_)
                            refine z_iload_n C dX7_does_349 5 rfl rfl ?_
                            refine z_iaload C dX7_does_350 hf (fun x67 hf => ?_)
                            refine z_isub C dX7_does_351 ?_
                            refine z_iload C dX7_does_352 8 rfl ?_
                            refine z_icmp_ne (tgt := 361) C dX7_does_354 (by decide) hf (fun hf => ?_) (fun hf => ?_)
                            · refine z_sub [] rfl ?_
                              exact kJ55 _ hf
                            · refine z_iconst C (v := 1) dX7_does_357 (by decide) ?_
                              refine z_goto (tgt := 362) C dX7_does_358 (by decide) ?_
                              refine z_sub [] rfl ?_
                              exact kJ53 _ _ hf
                  · refine z_ite hf (fun c hf => ?_) (fun c9 hf => ?_)
                    · refine z_tswIn (k := 9) (off := 315) (tgt := 363) C c dX7_does_48 (by decide) (by decide) ?_
                      refine z_join (P := fun J => ∀ (x68 : Int32), J x68 = some r9 → zW X 9 (zZ X al (some (.int r9.1), hi, r9.2)) 0 0 al hi h 406 [] [.int x68]) hf ?_ ?_
                      · intro x68 hf
                        refine z_ite hf (fun c hf => ?_) (fun c hf => nomatch hf)
                        exact z_zreturn C dX7_does_406 c (by cases hf; rfl)
                      · intro J69 kJ69 hf
                        refine z_join (P := fun J => ∀ (u9 : Unit), J u9 = some r9 → zW X 9 (zZ X al (some (.int r9.1), hi, r9.2)) 0 0 al hi h 405 [] []) hf ?_ ?_
                        · intro u9 hf
                          refine z_iconst C (v := 0) dX7_does_405 (by decide) ?_
                          exact kJ69 _ hf
                        · intro J70 kJ70 hf
                          refine z_iload C dX7_does_363 0 rfl ?_
                          refine z_if_eq (tgt := 405) C dX7_does_365 (by decide) hf (fun hf => ?_) (fun hf => ?_)
                          · refine z_sub [] rfl ?_
                            exact kJ70 _ hf
                          · refine z_iload C dX7_does_368 7 rfl ?_
                            refine z_iconst C (v := 3) dX7_does_370 (by decide) ?_
                            refine z_icmp_ge (tgt := 405) C dX7_does_371 (by decide) hf (fun hf => ?_) (fun hf => ?_)
                            · refine z_sub [] rfl ?_
                              exact kJ70 _ hf
                            · refine z_join (P := fun J => ∀ (x71 : Int32) (x72 : Int32), J x71 x72 = some r9 → zW X 9 (zZ X al (some (.int r9.1), hi, r9.2)) 0 0 al hi h 398 [] [.int x71, .int x72]) hf ?_ ?_
                              · intro x71 x72 hf
                                refine z_icmp_ne (tgt := 405) C dX7_does_398 (by decide) hf (fun hf => ?_) (fun hf => ?_)
                                · exact kJ70 _ hf
                                · refine z_iconst C (v := 1) dX7_does_401 (by decide) ?_
                                  refine z_goto (tgt := 406) C dX7_does_402 (by decide) ?_
                                  exact kJ69 _ hf
                              · intro J73 kJ73 hf
                                refine z_aload_n C dX7_does_374 2 rfl rfl ?_
                                refine z_getR C fl_X7_19 dX7_does_375 hf (fun x74 hf => ?_)
                                refine z_iload C dX7_does_378 1 rfl ?_
                                refine z_iload C dX7_does_380 6 rfl ?_
                                obtain ⟨x76, g75, hf⟩ := zbind hf
                                refine z_callS (kc' := 0) (ks' := 0) C (MX7_belongs (xl X) (xD X) (xT X) (xlo X) al hi g75) cw_X7_88 ys_X7_belongs dX7_does_382 rfl (by decide) ⟨rfl, rfl⟩ (Nat.le_of_ble_eq_true rfl) (st := []) rfl ?_
                                refine z_iload C dX7_does_385 7 rfl ?_
                                refine z_iconst C (v := 2) dX7_does_387 (by decide) ?_
                                refine z_icmp_ne (tgt := 396) C dX7_does_388 (by decide) hf (fun hf => ?_) (fun hf => ?_)
                                · refine z_iload C dX7_does_396 7 rfl ?_
                                  refine z_sub [] rfl ?_
                                  exact kJ73 _ _ hf
                                · refine z_bipush C (v := (-9 : Int32)) dX7_does_391 (by decide) ?_
                                  refine z_goto (tgt := 398) C dX7_does_393 (by decide) ?_
                                  refine z_sub [] rfl ?_
                                  exact kJ73 _ _ hf
                    · refine z_tswOut (tgt := 407) C dX7_does_48 (by have e1 := z_ne (i := 1) (by decide) c1; have e2 := z_ne (i := 2) (by decide) c2; have e3 := z_ne (i := 3) (by decide) c3; have e4 := z_ne (i := 4) (by decide) c4; have e5 := z_ne (i := 5) (by decide) c5; have e6 := z_ne (i := 6) (by decide) c6; have e7 := z_ne (i := 7) (by decide) c7; have e8 := z_ne (i := 8) (by decide) c8; have e9 := z_ne (i := 9) (by decide) c9; omega) (by decide) ?_
                      refine z_iconst C (v := 0) dX7_does_407 (by decide) ?_
                      exact z_zreturn C dX7_does_408 (Or.inl rfl) (by cases hf; rfl)
  · intro J3 kJ3 hf
    refine z_join (P := fun J => ∀ (x77 : Int32), J x77 = some r9 → zW X 9 (zZ X al (some (.int r9.1), hi, r9.2)) 0 0 al hi h 30 [(0, .ref a0), (1, .int p0), (2, .int p1), (3, .int p2), (4, .int p3), (5, .int p4), (6, .int x77)] []) hf ?_ ?_
    · intro x77 hf
      refine z_bipush C (v := 10) dX7_does_30 (by decide) ?_
      exact kJ3 _ _ hf
    · intro J78 kJ78 hf
      refine z_bipush C (v := 10) dX7_does_0 (by decide) ?_
      refine z_iload C dX7_does_2 4 rfl ?_
      refine z_imul C dX7_does_4 ?_
      refine z_iload C dX7_does_5 5 rfl ?_
      refine z_iadd C dX7_does_7 ?_
      refine z_istore C dX7_does_8 (by decide) (lv' := [(6, .int ((10 * p3) + p4)), (0, .ref a0), (1, .int p0), (2, .int p1), (3, .int p2), (4, .int p3), (5, .int p4)]) rfl ?_
      refine z_iload_n C dX7_does_10 3 rfl rfl ?_
      refine z_bipush C (v := 9) dX7_does_11 (by decide) ?_
      refine z_icmp_ge (tgt := 30) C dX7_does_13 (by decide) hf (fun hf => ?_) (fun hf => ?_)
      · refine z_sub [1, 2, 3, 4, 5, 6, 0] rfl ?_
        exact kJ78 _ hf
      · refine z_iload_n C dX7_does_16 4 rfl rfl ?_
        refine z_bipush C (v := 9) dX7_does_17 (by decide) ?_
        refine z_icmp_ge (tgt := 30) C dX7_does_19 (by decide) hf (fun hf => ?_) (fun hf => ?_)
        · refine z_sub [1, 2, 3, 4, 5, 6, 0] rfl ?_
          exact kJ78 _ hf
        · refine z_iload_n C dX7_does_22 3 rfl rfl ?_
          refine z_iload_n C dX7_does_23 4 rfl rfl ?_
          obtain ⟨x80, g79, hf⟩ := zbind hf
          refine z_callS (kc' := 0) (ks' := 0) C (MX7_cellAt (xl X) (xD X) (xT X) (xlo X) al hi g79) cw_X7_66 ys_X7_cellAt dX7_does_24 rfl (by decide) ⟨rfl, rfl⟩ (Nat.le_of_ble_eq_true rfl) (st := []) rfl ?_
          refine z_goto (tgt := 32) C dX7_does_27 (by decide) ?_
          refine z_sub [1, 2, 3, 4, 5, 6, 0] rfl ?_
          exact kJ3 _ _ hf
theorem MX7_does (l : Launch) (D : va_G) (T : zT) (lo : Nat) (al : Bool) (hi : Nat) {h : zH} {a0 : Nat} {p0 : Int32} {p1 : Int32} {p2 : Int32} {p3 : Int32} {p4 : Int32} {v9 : Int32} {h9 : zH} (hf : FX7_does T a0 p0 p1 p2 p3 p4 h = some (v9, h9)) : zM l yX7_does (.code yX7_does cX7_does 9 (some .boolean) :: TW) ({ frames := 6, cells := 0, slots := 0, locals := 149 } : Room) D T lo al [.ref a0, .int p0, .int p1, .int p2, .int p3, .int p4] hi h (some (.int v9), hi, h9) :=
  z_enter (own := RX7) (nm := "does") (lv := [(0, .ref a0), (1, .int p0), (2, .int p1), (3, .int p2), (4, .int p3), (5, .int p4)]) (by decide +kernel) rfl rfl (Nat.le_of_ble_eq_true rfl) rfl (fun _ _ _ _ _ _ _ _ C => BX7_does C hf)
theorem OX7_does {T : zT} {h : zH} {a0 : Nat} {p0 : Int32} {p1 : Int32} {p2 : Int32} {p3 : Int32} {p4 : Int32} {r9 : (Int32 × zH)} (hf : FX7_does T a0 p0 p1 p2 p3 p4 h = some r9) : ∃ fs, h a0 = some (.inr (7, fs)) := by
  obtain ⟨_, h1, _⟩ := zbind hf
  exact zo_obj h1
