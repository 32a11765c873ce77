/-! the law's first bytes: two new objects; then its loop -/
theorem mo_41 : (Jvm.Cond.classLink "CrossedSheetLaw" (8 : Nat) "CrossedSheet") ∈ TW := TWm 41 (by decide +kernel) (by decide +kernel)
theorem mo_42 : (Jvm.Cond.instantiable "CrossedSheet" (12 : Nat)) ∈ TW := TWm 42 (by decide +kernel) (by decide +kernel)
theorem mo_43 : (Jvm.Cond.methodLink "CrossedSheetLaw" (239 : Nat) yX6_init) ∈ TW := TWm 43 (by decide +kernel) (by decide +kernel)
theorem mo_44 : (Jvm.Cond.instanceMethod yX6_init) ∈ TW := TWm 44 (by decide +kernel) (by decide +kernel)
theorem mo_45 : (Jvm.Cond.code yX6_init cX6_init (1 : Nat) none) ∈ TW := TWm 45 (by decide +kernel) (by decide +kernel)
theorem ys_X6_init : yX6_init.cls ≠ "java/lang/invoke/MethodHandle" ∧ yX6_init.cls ≠ "java/lang/invoke/VarHandle" ∧ (parseMethodDescriptor yX6_init.desc).map (fun d => d.parameters.length) = some 0 := by decide +kernel
theorem cw_L_239 : GoodIn TW (.code yX6_init cX6_init 1 none :: TW) := zGI mo_45
theorem ni_L_8 : zni RL 8 6 12 [.null, .int 0, .null, .null, .null, .null, .null, .null, .null, .null, .null, .null] := ⟨RX6, TX6, tyX6, rfl, inTX6, tyX6_ok, mo_41, mo_42, mw_26, fun j hj => by rcases (show j = 0 ∨ j = 1 ∨ j = 2 ∨ j = 3 ∨ j = 4 ∨ j = 5 ∨ j = 6 ∨ j = 7 ∨ j = 8 ∨ j = 9 ∨ j = 10 ∨ j = 11 by omega) with rfl | rfl | rfl | rfl | rfl | rfl | rfl | rfl | rfl | rfl | rfl | rfl <;> rfl⟩
set_option maxHeartbeats 4000000 in
theorem law_go {X : zX} (CL : zCL X cL_law 10 RL (xM X).name (some .boolean) 13 302) {xv : Nat → Int32} {L bs : Nat} (hX : va_X bs L xv (xs X) (xs X).heap) (hbl : bs < xlo X) (hL : L ≤ 260) {Z : State → Prop} {hi : Nat} (hret : ∀ hi kc ks h lv, zW X 10 Z kc ks false hi h 349 lv [.int 1]) {h : zH} : ∃ n9, n9 ≤ 599378 ∧ zW X 10 Z (n9 + 708) (6 * n9 + 30098) true hi h 0 [(0, .ref bs)] [] := by
  have C := CL.1
  obtain ⟨z, z1, z2, ez⟩ := cell_at (xv := xv) hL (i := 0) (by omega) (by omega)
  obtain ⟨h1, e1, N1, f1⟩ := nw_new (T := xT X) (h := h) (b := hi) (q := tg0 z) (hi + 1) rfl
  obtain ⟨h2, e2, N2, f2⟩ := nw_new (T := xT X) (h := h1) (b := hi + 354) (q := tg0 z) (hi + 354 + 1) rfl
  have N3 := N1.kept (h' := h2) (fun q q1 q2 => f2 q (Or.inl (by omega)))
  obtain ⟨h3, n9, ef, hn⟩ := law_ok hL (o := hi) (p := hi + 354) (h := h2) (by omega) z1 z2 ez N3 N2
  refine ⟨n9, hn, ?_⟩
  have g1 := e1 (fun i g => some (i, g))
  have g2 := e2 (fun i g => some (i, g))
  refine z_newf (kc' := n9 + 707) (ks' := 6 * n9 + 30086) C ni_L_8 rfl dL_law_0 ⟨by omega, by omega⟩ g1 (fun h5 hf => ?_)
  refine z_dup C dL_law_3 rfl ?_
  obtain ⟨i3, h4, k1, hf⟩ := zbind2 hf
  cases hf
  refine z_callI (kc' := n9 + 354) (ks' := 6 * n9 + 15049) C (MX6_init (xl X) (xD X) (xT X) (xlo X) (hi + 1) k1) cw_L_239 mw_26 mo_43 mo_44 rfl ys_X6_init dL_law_4 rfl (by decide) ⟨by show 353 + _ = _; omega, by show 15037 + _ = _; omega⟩ (Nat.le_of_ble_eq_true rfl) (st := [.ref hi]) rfl ?_
  refine z_astore_n C dL_law_7 rfl (by decide) (lv' := [(1, .ref hi), (0, .ref bs)]) rfl ?_
  refine z_newf (kc' := n9 + 353) (ks' := 6 * n9 + 15037) C ni_L_8 rfl dL_law_8 ⟨by omega, by omega⟩ g2 (fun h5 hf => ?_)
  refine z_dup C dL_law_11 rfl ?_
  obtain ⟨i3, h4, k1, hf⟩ := zbind2 hf
  cases hf
  refine z_callI (kc' := n9) (ks' := 6 * n9) C (MX6_init (xl X) (xD X) (xT X) (xlo X) (hi + 354 + 1) k1) cw_L_239 mw_26 mo_43 mo_44 rfl ys_X6_init dL_law_12 rfl (by decide) ⟨by show 353 + _ = _; omega, by show 15037 + _ = _; omega⟩ (Nat.le_of_ble_eq_true rfl) (st := [.ref (hi + 354)]) rfl ?_
  refine z_astore_n C dL_law_15 rfl (by decide) (lv' := [(2, .ref (hi + 354)), (1, .ref hi), (0, .ref bs)]) rfl ?_
  refine z_al ?_
  refine z_sub [2, 1, 0] rfl ?_
  exact BL_law CL hX hbl (hret _) ef
