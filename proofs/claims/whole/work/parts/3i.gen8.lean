theorem mw_140 : (Jvm.Cond.fieldLink "CrossedSheet" (106 : Nat) "CrossedSheet$Sheet" "width" "I") ∈ TW := TWm 140 (by decide +kernel) (by decide +kernel)
theorem mw_144 : (Jvm.Cond.fieldLink "CrossedSheet" (109 : Nat) "CrossedSheet$Sheet" "height" "I") ∈ TW := TWm 144 (by decide +kernel) (by decide +kernel)
theorem mw_758 : (Jvm.Cond.methodLink "CrossedSheet" (207 : Nat) ({ cls := "CrossedSheet$Sheet", name := "hasRoom", desc := "(II)Z" } : Jvm.MethodName)) ∈ TW := TWm 758 (by decide +kernel) (by decide +kernel)
theorem mw_760 : (Jvm.Cond.methodLink "CrossedSheet" (216 : Nat) ({ cls := "CrossedSheet$Sheet", name := "addMark", desc := "(IIIII)V" } : Jvm.MethodName)) ∈ TW := TWm 760 (by decide +kernel) (by decide +kernel)
theorem mw_945 : (Jvm.Cond.methodLink "CrossedSheet" (376 : Nat) ({ cls := "CrossedSheet", name := "remainder", desc := "(II)I" } : Jvm.MethodName)) ∈ TW := TWm 945 (by decide +kernel) (by decide +kernel)
theorem mw_946 : (Jvm.Cond.static ({ cls := "CrossedSheet", name := "remainder", desc := "(II)I" } : Jvm.MethodName)) ∈ TW := TWm 946 (by decide +kernel) (by decide +kernel)
theorem mw_947 : (Jvm.Cond.code ({ cls := "CrossedSheet", name := "remainder", desc := "(II)I" } : Jvm.MethodName) prog_1_method_41_code (2 : Nat) (Option.some Jvm.ClassFile.FieldType.int)) ∈ TW := TWm 947 (by decide +kernel) (by decide +kernel)
theorem mw_948 : (Jvm.Cond.constant "CrossedSheet" (379 : Nat) (65536 : Int32)) ∈ TW := TWm 948 (by decide +kernel) (by decide +kernel)
theorem fl_X6_106 : zF RX6 106 3 0 .int false := ⟨RX3, TX3, 12, tyX3, rfl, inTX3, by decide, mw_140, by decide +kernel, tyX3_ok, nmX3, rfl⟩
theorem fl_X6_109 : zF RX6 109 3 1 .int false := ⟨RX3, TX3, 12, tyX3, rfl, inTX3, by decide, mw_144, by decide +kernel, tyX3_ok, nmX3, rfl⟩
theorem ys_X6_remainder : yX6_remainder.cls ≠ "java/lang/invoke/MethodHandle" ∧ yX6_remainder.cls ≠ "java/lang/invoke/VarHandle" ∧ (parseMethodDescriptor yX6_remainder.desc).map (fun d => d.parameters.length) = some 2 := by decide +kernel
theorem cw_X6_207 : GoodIn TW (wsV RX6 207 RX3 yX3_hasRoom (.code yX3_hasRoom cX3_hasRoom 3 (some .boolean) :: TW)) := zGV mw_758 mw_344 mw_345 mw_50 mw_346
theorem cw_X6_216 : GoodIn TW (wsV RX6 216 RX3 yX3_addMark (.code yX3_addMark cX3_addMark 7 none :: TW)) := zGV mw_760 mw_373 mw_374 mw_50 mw_375
theorem cw_X6_376 : GoodIn TW (va_wsS RX6 376 yX6_remainder (.code yX6_remainder cX6_remainder 2 (some .int) :: TW)) := zGS mw_945 mw_946 mw_47 mw_947
theorem dX6_remainder_0 : decode cX6_remainder 0 = .ok (.iload_n 1, 1) := by decide +kernel
theorem dX6_remainder_1 : decode cX6_remainder 1 = .ok (.ifCond .le 9, 3) := by decide +kernel
theorem dX6_remainder_4 : decode cX6_remainder 4 = .ok (.iload_n 0, 1) := by decide +kernel
theorem dX6_remainder_5 : decode cX6_remainder 5 = .ok (.iload_n 1, 1) := by decide +kernel
theorem dX6_remainder_6 : decode cX6_remainder 6 = .ok (.irem, 1) := by decide +kernel
theorem dX6_remainder_7 : decode cX6_remainder 7 = .ok (.goto 4, 3) := by decide +kernel
theorem dX6_remainder_10 : decode cX6_remainder 10 = .ok (.iconst 0, 1) := by decide +kernel
theorem dX6_remainder_11 : decode cX6_remainder 11 = .ok (.ireturn, 1) := by decide +kernel
def FX6_remainder (T : zT) (p0 : Int32) (p1 : Int32) (h : zH) : Option Int32 := zJ (fun (x1 : Int32) => some x1) (fun J2 => if p1 ≤ 0 then (J2 0) else ((zremI p0 p1).bind fun x3 => J2 x3))
set_option maxHeartbeats 4000000 in
set_option maxRecDepth 100000 in
theorem BX6_remainder {X : zX} (C : zC X cX6_remainder 2 RX6 "remainder" (some .int) 0 0) {al : Bool} {hi : Nat} {h : zH} {p0 : Int32} {p1 : Int32} {r9 : Int32} (hf : FX6_remainder (xT X) p0 p1 h = some r9) : zW X 2 (zZ X al (some (.int r9), hi, h)) 0 0 al hi h 0 [(0, .int p0), (1, .int p1)] [] := by
  unfold FX6_remainder at hf
  refine z_join (P := fun J => ∀ (x1 : Int32), J x1 = some r9 → zW X 2 (zZ X al (some (.int r9), hi, h)) 0 0 al hi h 11 [] [.int x1]) hf ?_ ?_
  · intro x1 hf
    exact z_ireturn C dX6_remainder_11 (by cases hf; rfl)
  · intro J2 kJ2 hf
    refine z_iload_n C dX6_remainder_0 1 rfl rfl ?_
    refine z_if_le (tgt := 10) C dX6_remainder_1 (by decide) hf (fun hf => ?_) (fun hf => ?_)
    · refine z_iconst C (v := 0) dX6_remainder_10 (by decide) ?_
      refine z_sub [] rfl ?_
      exact kJ2 _ hf
    · refine z_iload_n C dX6_remainder_4 0 rfl rfl ?_
      refine z_iload_n C dX6_remainder_5 1 rfl rfl ?_
      refine z_irem C dX6_remainder_6 hf (fun x3 _ hf => ?_)
      refine z_goto (tgt := 11) C dX6_remainder_7 (by decide) ?_
      refine z_sub [] rfl ?_
      exact kJ2 _ hf
theorem MX6_remainder (l : Launch) (D : va_G) (T : zT) (lo : Nat) (al : Bool) (hi : Nat) {h : zH} {p0 : Int32} {p1 : Int32} {v9 : Int32} (hf : FX6_remainder T p0 p1 h = some v9) : zM l yX6_remainder (.code yX6_remainder cX6_remainder 2 (some .int) :: TW) ({ frames := 0, cells := 0, slots := 0, locals := 0 } : Room) D T lo al [.int p0, .int p1] hi h (some (.int v9), hi, h) :=
  z_enter (own := RX6) (nm := "remainder") (lv := [(0, .int p0), (1, .int p1)]) (by decide +kernel) rfl rfl (Nat.le_of_ble_eq_true rfl) rfl (fun _ _ _ _ _ _ _ _ C => BX6_remainder C hf)
theorem dX6_playRound_0 : decode cX6_playRound 0 = .ok (.iload_n 1, 1) := by decide +kernel
theorem dX6_playRound_1 : decode cX6_playRound 1 = .ok (.aload_n 0, 1) := by decide +kernel
theorem dX6_playRound_2 : decode cX6_playRound 2 = .ok (.getfield 36, 3) := by decide +kernel
theorem dX6_playRound_5 : decode cX6_playRound 5 = .ok (.getfield 106, 3) := by decide +kernel
theorem dX6_playRound_8 : decode cX6_playRound 8 = .ok (.invokestatic 376, 3) := by decide +kernel
theorem dX6_playRound_11 : decode cX6_playRound 11 = .ok (.istore_n 2, 1) := by decide +kernel
theorem dX6_playRound_12 : decode cX6_playRound 12 = .ok (.iload_n 1, 1) := by decide +kernel
theorem dX6_playRound_13 : decode cX6_playRound 13 = .ok (.bipush 16, 2) := by decide +kernel
theorem dX6_playRound_15 : decode cX6_playRound 15 = .ok (.idiv, 1) := by decide +kernel
theorem dX6_playRound_16 : decode cX6_playRound 16 = .ok (.aload_n 0, 1) := by decide +kernel
theorem dX6_playRound_17 : decode cX6_playRound 17 = .ok (.getfield 36, 3) := by decide +kernel
theorem dX6_playRound_20 : decode cX6_playRound 20 = .ok (.getfield 109, 3) := by decide +kernel
theorem dX6_playRound_23 : decode cX6_playRound 23 = .ok (.invokestatic 376, 3) := by decide +kernel
theorem dX6_playRound_26 : decode cX6_playRound 26 = .ok (.istore_n 3, 1) := by decide +kernel
theorem dX6_playRound_27 : decode cX6_playRound 27 = .ok (.aload_n 0, 1) := by decide +kernel
theorem dX6_playRound_28 : decode cX6_playRound 28 = .ok (.getfield 36, 3) := by decide +kernel
theorem dX6_playRound_31 : decode cX6_playRound 31 = .ok (.iload_n 2, 1) := by decide +kernel
theorem dX6_playRound_32 : decode cX6_playRound 32 = .ok (.iload_n 3, 1) := by decide +kernel
theorem dX6_playRound_33 : decode cX6_playRound 33 = .ok (.invokevirtual 207, 3) := by decide +kernel
theorem dX6_playRound_36 : decode cX6_playRound 36 = .ok (.ifCond .ne 13, 3) := by decide +kernel
theorem dX6_playRound_39 : decode cX6_playRound 39 = .ok (.aload_n 0, 1) := by decide +kernel
theorem dX6_playRound_40 : decode cX6_playRound 40 = .ok (.getfield 36, 3) := by decide +kernel
theorem dX6_playRound_43 : decode cX6_playRound 43 = .ok (.iload_n 2, 1) := by decide +kernel
theorem dX6_playRound_44 : decode cX6_playRound 44 = .ok (.iload_n 3, 1) := by decide +kernel
theorem dX6_playRound_45 : decode cX6_playRound 45 = .ok (.iconst 0, 1) := by decide +kernel
theorem dX6_playRound_46 : decode cX6_playRound 46 = .ok (.invokevirtual 220, 3) := by decide +kernel
theorem dX6_playRound_49 : decode cX6_playRound 49 = .ok (.aload_n 0, 1) := by decide +kernel
theorem dX6_playRound_50 : decode cX6_playRound 50 = .ok (.getfield 36, 3) := by decide +kernel
theorem dX6_playRound_53 : decode cX6_playRound 53 = .ok (.iload_n 2, 1) := by decide +kernel
theorem dX6_playRound_54 : decode cX6_playRound 54 = .ok (.iload_n 3, 1) := by decide +kernel
theorem dX6_playRound_55 : decode cX6_playRound 55 = .ok (.iload_n 1, 1) := by decide +kernel
theorem dX6_playRound_56 : decode cX6_playRound 56 = .ok (.sipush 256, 3) := by decide +kernel
theorem dX6_playRound_59 : decode cX6_playRound 59 = .ok (.idiv, 1) := by decide +kernel
theorem dX6_playRound_60 : decode cX6_playRound 60 = .ok (.bipush 27, 2) := by decide +kernel
theorem dX6_playRound_62 : decode cX6_playRound 62 = .ok (.irem, 1) := by decide +kernel
theorem dX6_playRound_63 : decode cX6_playRound 63 = .ok (.iload_n 1, 1) := by decide +kernel
theorem dX6_playRound_64 : decode cX6_playRound 64 = .ok (.sipush 8192, 3) := by decide +kernel
theorem dX6_playRound_67 : decode cX6_playRound 67 = .ok (.idiv, 1) := by decide +kernel
theorem dX6_playRound_68 : decode cX6_playRound 68 = .ok (.iconst 4, 1) := by decide +kernel
theorem dX6_playRound_69 : decode cX6_playRound 69 = .ok (.irem, 1) := by decide +kernel
theorem dX6_playRound_70 : decode cX6_playRound 70 = .ok (.iload_n 1, 1) := by decide +kernel
theorem dX6_playRound_71 : decode cX6_playRound 71 = .ok (.ldc_w 379, 3) := by decide +kernel
theorem dX6_playRound_74 : decode cX6_playRound 74 = .ok (.idiv, 1) := by decide +kernel
theorem dX6_playRound_75 : decode cX6_playRound 75 = .ok (.bipush 9, 2) := by decide +kernel
theorem dX6_playRound_77 : decode cX6_playRound 77 = .ok (.irem, 1) := by decide +kernel
theorem dX6_playRound_78 : decode cX6_playRound 78 = .ok (.invokevirtual 216, 3) := by decide +kernel
theorem dX6_playRound_81 : decode cX6_playRound 81 = .ok (.return_, 1) := by decide +kernel
def FX6_playRound (T : zT) (a0 : Nat) (p0 : Int32) (h : zH) : Option zH := (zo h a0 6).bind fun _ => zJ (fun (x1 : Int32) (x2 : Int32) (h3 : zH) => (zgr h3 a0 6 4).bind fun x5 => (zdivI p0 256).bind fun x6 => (zremI x6 27).bind fun x7 => (zdivI p0 8192).bind fun x8 => (zremI x8 4).bind fun x9 => (zdivI p0 65536).bind fun x10 => (zremI x10 9).bind fun x11 => (FX3_addMark T x5 x1 x2 x7 x9 x11 h3).bind fun h13 => some h13) (fun J4 => (zgr h a0 6 4).bind fun x14 => (zgi h x14 3 0).bind fun x15 => (FX6_remainder T p0 x15 h).bind fun x17 => (zdivI p0 16).bind fun x18 => (zgr h a0 6 4).bind fun x19 => (zgi h x19 3 1).bind fun x20 => (FX6_remainder T x18 x20 h).bind fun x22 => (zgr h a0 6 4).bind fun x23 => (FX3_hasRoom T x23 x17 x22 h).bind fun x25 => if x25 = 0 then ((zgr h a0 6 4).bind fun x26 => (FX3_removeMark T x26 x17 x22 0 h).bind fun h28 => J4 x17 x22 h28) else (J4 x17 x22 h))
set_option maxHeartbeats 4000000 in
set_option maxRecDepth 100000 in
theorem BX6_playRound {X : zX} (C : zC X cX6_playRound 4 RX6 "playRound" none 3 73) {al : Bool} {hi : Nat} {h : zH} {a0 : Nat} {p0 : Int32} {r9 : zH} (hf : FX6_playRound (xT X) a0 p0 h = some r9) : zW X 4 (zZ X al (none, hi, r9)) 0 0 al hi h 0 [(0, .ref a0), (1, .int p0)] [] := by
  unfold FX6_playRound at hf
  obtain ⟨_, _, hf⟩ := zbind hf
  refine z_join (P := fun J => ∀ (x1 : Int32) (x2 : Int32) (h3 : zH), J x1 x2 h3 = some r9 → zW X 4 (zZ X al (none, hi, r9)) 0 0 al hi h3 49 [(0, .ref a0), (1, .int p0), (2, .int x1), (3, .int x2)] []) hf ?_ ?_
  · intro x1 x2 h3 hf
    refine z_aload_n C dX6_playRound_49 0 rfl rfl ?_
    refine z_getR C fl_X6_36 dX6_playRound_50 hf (fun x5 hf => ?_)
    refine z_iload_n C dX6_playRound_53 2 rfl rfl ?_
    refine z_iload_n C dX6_playRound_54 3 rfl rfl ?_
    refine z_iload_n C dX6_playRound_55 1 rfl rfl ?_
    refine z_sipush C (v := 256) dX6_playRound_56 (by decide) ?_
    refine z_idiv C dX6_playRound_59 hf (fun x6 _ hf => ?_)
    refine z_bipush C (v := 27) dX6_playRound_60 (by decide) ?_
    refine z_irem C dX6_playRound_62 hf (fun x7 _ hf => ?_)
    refine z_iload_n C dX6_playRound_63 1 rfl rfl ?_
    refine z_sipush C (v := 8192) dX6_playRound_64 (by decide) ?_
    refine z_idiv C dX6_playRound_67 hf (fun x8 _ hf => ?_)
    refine z_iconst C (v := 4) dX6_playRound_68 (by decide) ?_
    refine z_irem C dX6_playRound_69 hf (fun x9 _ hf => ?_)
    refine z_iload_n C dX6_playRound_70 1 rfl rfl ?_
    refine z_ldc_w C (v := 65536) mw_948 dX6_playRound_71 ?_
    refine z_idiv C dX6_playRound_74 hf (fun x10 _ hf => ?_)
    refine z_bipush C (v := 9) dX6_playRound_75 (by decide) ?_
    refine z_irem C dX6_playRound_77 hf (fun x11 _ hf => ?_)
    obtain ⟨h13, g12, hf⟩ := zbind hf
    refine z_callV (kc' := 0) (ks' := 0) C (MX3_addMark (xl X) (xD X) (xT X) (xlo X) al hi g12) (OX3_addMark g12) rfl cw_X6_216 yv_X3_addMark dX6_playRound_78 rfl (by decide) ⟨rfl, rfl⟩ (Nat.le_of_ble_eq_true rfl) (st := []) rfl ?_
    exact z_vreturn C dX6_playRound_81 (by cases hf; rfl)
  · intro J4 kJ4 hf
    refine z_iload_n C dX6_playRound_0 1 rfl rfl ?_
    refine z_aload_n C dX6_playRound_1 0 rfl rfl ?_
    refine z_getR C fl_X6_36 dX6_playRound_2 hf (fun x14 hf => ?_)
    refine z_getI C fl_X6_106 dX6_playRound_5 hf (fun x15 hf => ?_)
    obtain ⟨x17, g16, hf⟩ := zbind hf
    refine z_callS (kc' := 0) (ks' := 0) C (MX6_remainder (xl X) (xD X) (xT X) (xlo X) al hi g16) cw_X6_376 ys_X6_remainder dX6_playRound_8 rfl (by decide) ⟨rfl, rfl⟩ (Nat.le_of_ble_eq_true rfl) (st := []) rfl ?_
    refine z_istore_n C dX6_playRound_11 rfl (by decide) (lv' := [(2, .int x17), (0, .ref a0), (1, .int p0)]) rfl ?_
    refine z_iload_n C dX6_playRound_12 2 rfl rfl ?_
    refine z_bipush C (v := 16) dX6_playRound_13 (by decide) ?_
    refine z_idiv C dX6_playRound_15 hf (fun x18 _ hf => ?_)
    refine z_aload_n C dX6_playRound_16 1 rfl rfl ?_
    refine z_getR C fl_X6_36 dX6_playRound_17 hf (fun x19 hf => ?_)
    refine z_getI C fl_X6_109 dX6_playRound_20 hf (fun x20 hf => ?_)
    obtain ⟨x22, g21, hf⟩ := zbind hf
    refine z_callS (kc' := 0) (ks' := 0) C (MX6_remainder (xl X) (xD X) (xT X) (xlo X) al hi g21) cw_X6_376 ys_X6_remainder dX6_playRound_23 rfl (by decide) ⟨rfl, rfl⟩ (Nat.le_of_ble_eq_true rfl) (st := []) rfl ?_
    refine z_istore_n C dX6_playRound_26 rfl (by decide) (lv' := [(3, .int x22), (2, .int x17), (0, .ref a0), (1, .int p0)]) rfl ?_
    refine z_aload_n C dX6_playRound_27 2 rfl rfl ?_
    refine z_getR C fl_X6_36 dX6_playRound_28 hf (fun x23 hf => ?_)
    refine z_iload_n C dX6_playRound_31 1 rfl rfl ?_
    refine z_iload_n C dX6_playRound_32 0 rfl rfl ?_
    obtain ⟨x25, g24, hf⟩ := zbind hf
    refine z_callV (kc' := 0) (ks' := 0) C (MX3_hasRoom (xl X) (xD X) (xT X) (xlo X) al hi g24) (OX3_hasRoom g24) rfl cw_X6_207 yv_X3_hasRoom dX6_playRound_33 rfl (by decide) ⟨rfl, rfl⟩ (Nat.le_of_ble_eq_true rfl) (st := []) rfl ?_
    refine z_if_ne (tgt := 49) C dX6_playRound_36 (by decide) hf (fun hf => ?_) (fun hf => ?_)
    · refine z_sub [2, 3, 1, 0] rfl ?_
      exact kJ4 _ _ _ hf
    · refine z_aload_n C dX6_playRound_39 2 rfl rfl ?_
      refine z_getR C fl_X6_36 dX6_playRound_40 hf (fun x26 hf => ?_)
      refine z_iload_n C dX6_playRound_43 1 rfl rfl ?_
      refine z_iload_n C dX6_playRound_44 0 rfl rfl ?_
      refine z_iconst C (v := 0) dX6_playRound_45 (by decide) ?_
      obtain ⟨h28, g27, hf⟩ := zbind hf
      refine z_callV (kc' := 0) (ks' := 0) C (MX3_removeMark (xl X) (xD X) (xT X) (xlo X) al hi g27) (OX3_removeMark g27) rfl cw_X6_220 yv_X3_removeMark dX6_playRound_46 rfl (by decide) ⟨rfl, rfl⟩ (Nat.le_of_ble_eq_true rfl) (st := []) rfl ?_
      refine z_sub [2, 3, 1, 0] rfl ?_
      exact kJ4 _ _ _ hf
theorem MX6_playRound (l : Launch) (D : va_G) (T : zT) (lo : Nat) (al : Bool) (hi : Nat) {h : zH} {a0 : Nat} {p0 : Int32} {h9 : zH} (hf : FX6_playRound T a0 p0 h = some h9) : zM l yX6_playRound (.code yX6_playRound cX6_playRound 4 none :: TW) ({ frames := 3, cells := 0, slots := 0, locals := 73 } : Room) D T lo al [.ref a0, .int p0] hi h (none, hi, h9) :=
  z_enter (own := RX6) (nm := "playRound") (lv := [(0, .ref a0), (1, .int p0)]) (by decide +kernel) rfl rfl (Nat.le_of_ble_eq_true rfl) rfl (fun _ _ _ _ _ _ _ _ C => BX6_playRound C hf)
theorem OX6_playRound {T : zT} {h : zH} {a0 : Nat} {p0 : Int32} {r9 : zH} (hf : FX6_playRound T a0 p0 h = some r9) : ∃ fs, h a0 = some (.inr (6, fs)) := by
  obtain ⟨_, h1, _⟩ := zbind hf
  exact zo_obj h1
