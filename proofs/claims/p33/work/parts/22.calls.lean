/-! returns, calls, new objects -/
section ZCall
variable {X : zX} {cc : ByteArray} {nL : Nat} {own nm : String} {ret : Option FieldType} {fr lc : Nat} {Z : State → Prop} {kc ks : Nat} {al : Bool} {hi : Nat} {h : zH} {pc : Nat} {lv : List (Nat × Value)} {st stk : List Value} {ρ : Type} {r : ρ}
theorem z_end {R9 : zRes} {H : Heap} {locs : List Loc} {v : Option Value} (e9 : (v, hi, h) = R9) (hR : zR (xD X) (xlo X) h H) (hS : va_S (fun q => xlo X ≤ q) (xs X).heap H locs) (ha : al = true → H.size = hi) : ∀ t : State, t.heap = H → (xs X).WarmedH t.vm → zQ al (xD X) (xlo X) R9 (xa X) (xs X) (.returned v) t := by
  subst e9
  intro t ht hW
  exact ⟨⟨rfl, by rw [ht]; exact hR, fun q => by rw [ht]; exact ha q⟩, hS.F ht⟩
theorem z_ireturn (C : zC X cc nL own nm (some .int) fr lc) {v : Int32} {R9 : zRes} (hd : decode cc pc = .ok (.ireturn, 1)) (e9 : (some (.int v), hi, h) = R9) : zW X nL (zZ X al R9) kc ks al hi h pc lv [.int v] := fun H locs ls cells slots hR hS ha hL hc hs =>
  W.widen (k := (xR X).cells) (n := (xR X).slots) (by omega) (by omega) (W.iret C.1 C.2.1 C.rt (z_end e9 hR hS ha) hS.2.2 hd C.s)
theorem z_zreturn (C : zC X cc nL own nm (some .boolean) fr lc) {v : Int32} {R9 : zRes} (hd : decode cc pc = .ok (.ireturn, 1)) (hv : v = 0 ∨ v = 1) (e9 : (some (.int v), hi, h) = R9) : zW X nL (zZ X al R9) kc ks al hi h pc lv [.int v] := fun H locs ls cells slots hR hS ha hL hc hs =>
  W.widen (k := (xR X).cells) (n := (xR X).slots) (by omega) (by omega) (W.zret C.1 C.2.1 C.rt (by rcases hv with rfl | rfl <;> rfl) (z_end e9 hR hS ha) hS.2.2 hd C.s)
theorem z_lreturn (C : zC X cc nL own nm (some .long) fr lc) {v : Int64} {R9 : zRes} (hd : decode cc pc = .ok (.lreturn, 1)) (e9 : (some (.long v), hi, h) = R9) : zW X nL (zZ X al R9) kc ks al hi h pc lv [.long v] := fun H locs ls cells slots hR hS ha hL hc hs =>
  W.widen (k := (xR X).cells) (n := (xR X).slots) (by omega) (by omega) (W.lret C.1 C.2.1 C.rt (z_end e9 hR hS ha) hS.2.2 hd C.s)
theorem z_vreturn (C : zC X cc nL own nm none fr lc) {R9 : zRes} (hd : decode cc pc = .ok (.return_, 1)) (e9 : (none, hi, h) = R9) : zW X nL (zZ X al R9) kc ks al hi h pc lv [] := fun H locs ls cells slots hR hS ha hL hc hs =>
  W.widen (k := (xR X).cells) (n := (xR X).slots) (by omega) (by omega) (W.vret C.1 C.2.1 C.rt (z_end e9 hR hS ha) hS.2.2 hd C.s)
/-- behind a call -/
theorem z_fin (C : zC X cc nL own nm ret fr lc) {H : Heap} {locs : List Loc} {ls : Array Slot} {cells slots mc ms : Nat} {v9 : Option Value} {hi' : Nat} {h' : zH} {a : Array Value} (hS : va_S (fun q => xlo X ≤ q) (xs X).heap H locs)
    (hr : va_Run (xp X) (xl X) (xe X) (xR X) (xs X) (xm X) (xa X) (xb X) (xM X) (xc X) H locs cells slots mc ms (F0 (xm X) pc ls stk) st (zQ al (xD X) (xlo X) (v9, hi', h') a) (fun q => xlo X ≤ q))
    (kk : ∀ (H1 : Heap) (locs1 : List Loc), zR (xD X) (xlo X) h' H1 → va_S (fun q => xlo X ≤ q) (xs X).heap H1 locs1 → (al = true → H1.size = hi') → W (xp X) (xl X) (xe X) (xR X) (xs X) (xm X) (xa X) (xb X) (xM X) (xc X) H1 locs1 (cells + mc) (slots + ms) Z (F0 (xm X) (pc + 3) ls (v9.toList ++ st))) :
    W (xp X) (xl X) (xe X) (xR X) (xs X) (xm X) (xa X) (xb X) (xM X) (xc X) H locs cells slots Z (F0 (xm X) pc ls stk) := by
  intro T hT X9
  obtain ⟨v, st₀, t, T', L, h0, X', hL, e1, e2, ⟨⟨hv, hRt, hat⟩, hz, hk⟩, st9⟩ := hr T hT X9
  cases hv
  rw [h0] at hz hk
  obtain ⟨t2, a1, b1⟩ := kk T'.heap (locs ++ L) (by rw [e1]; exact hRt)
    ⟨Nat.le_trans hS.1 (by rw [e1]; exact hz), fun q h1 h2 => by rw [e1, hk q (Nat.lt_of_lt_of_le h1 hS.1) h2]; exact hS.2.1 q h1 h2, fun q hq => by
      rcases List.mem_append.mp hq with h | h
      · exact hS.2.2 q h
      · exact hL q h⟩ (fun q => by rw [e1]; exact hat q) T' rfl X'
  exact ⟨t2, st9 t2 a1, b1⟩
theorem z_pre (C : zC X cc nL own nm ret fr lc) {H : Heap} {locs : List Loc} (hR : zR (xD X) (xlo X) h H) (hS : va_S (fun q => xlo X ≤ q) (xs X).heap H locs) (ha : al = true → H.size = hi) (av : List Value) : ∀ U : State, U.heap = H → (xs X).WarmedH U.vm → va_Pc av (zP al (xD X) (xT X) (xlo X) hi h) av.toArray U := fun U hU hW =>
  ⟨rfl, by rw [hU]; exact Nat.le_trans C.z hS.1, by rw [hU]; exact hR, va_K.moved hW.alike C.K, fun q => by rw [hU]; exact ha q, C.N.warm hW⟩
variable {y : MethodName} {cb : ByteArray} {maxL n index b ci kc' ks' hi' : Nat} {rty : Option FieldType} {rm : Room} {as : List Value} {v9 : Option Value} {h' : zH} {C' : String} {T' : u_T} {N' : Nat}
theorem z_callV (C : zC X cc nL own nm ret fr lc) (hM : zM (xl X) y (.code y cb maxL rty :: TW) rm (xD X) (xT X) (xlo X) al (.ref b :: as) hi h (v9, hi', h')) (hO : ∃ fs, h b = some (.inr (ci, fs))) (hcl : vwCl[ci]? = some (C', T', N')) (hG : GoodIn TW (wsV own index C' y (.code y cb maxL rty :: TW))) (hyd : y.cls = C' ∧ y.cls ≠ "java/lang/invoke/MethodHandle" ∧ y.cls ≠ "java/lang/invoke/VarHandle" ∧ (parseMethodDescriptor y.desc).map (fun d => d.parameters.length) = some n) (hd : decode cc pc = .ok (.invokevirtual index, 3)) (hn : as.length = n) (hroom : rm.frames + 1 ≤ fr ∧ 8 + (maxL + 11) + rm.locals ≤ lc) (hk : rm.cells + kc' = kc ∧ rm.slots + ks' = ks) (hw : (st.map fun v => v.category).sum ≤ 8) (hstk : stk = as.reverse ++ .ref b :: st)
    (kk : zW X nL Z kc' ks' al hi' h' (pc + 3) lv (v9.toList ++ st)) : zW X nL Z kc ks al hi h pc lv stk := by
  intro H locs ls cells slots hR hS ha hL hc hs
  obtain ⟨fs, ho⟩ := hO
  have hf := C.f
  have hlc := C.c
  refine z_fin C hS (va_runV (As := as) (rest := st) ⟨C.1, C.2.1, C.l, C.o, C.W⟩ hM (cwV n C.W hG rfl rfl rfl hyd ⟨by omega, by omega⟩) ⟨zP.calls, va_recv C.K (hR.one ho) hcl (q0 := 0) rfl, z_pre C hR hS ha (.ref b :: as)⟩ rfl hn hL.1 hstk (by show 2 * 0 + _ ≤ 8; omega) hd ⟨by omega, by omega⟩) fun H1 locs1 hR1 hS1 ha1 => ?_
  exact kk H1 locs1 ls _ _ hR1 hS1 ha1 hL (by omega) (by omega)
theorem z_callS (C : zC X cc nL own nm ret fr lc) (hM : zM (xl X) y (.code y cb maxL rty :: TW) rm (xD X) (xT X) (xlo X) al as hi h (v9, hi', h')) (hG : GoodIn TW (va_wsS own index y (.code y cb maxL rty :: TW))) (hyd : y.cls ≠ "java/lang/invoke/MethodHandle" ∧ y.cls ≠ "java/lang/invoke/VarHandle" ∧ (parseMethodDescriptor y.desc).map (fun d => d.parameters.length) = some n) (hd : decode cc pc = .ok (.invokestatic index, 3)) (hn : as.length = n) (hroom : rm.frames + 1 ≤ fr ∧ 8 + (maxL + 11) + rm.locals ≤ lc) (hk : rm.cells + kc' = kc ∧ rm.slots + ks' = ks) (hw : (st.map fun v => v.category).sum ≤ 8) (hstk : stk = as.reverse ++ st)
    (kk : zW X nL Z kc' ks' al hi' h' (pc + 3) lv (v9.toList ++ st)) : zW X nL Z kc ks al hi h pc lv stk := by
  intro H locs ls cells slots hR hS ha hL hc hs
  have hf := C.f
  have hlc := C.c
  refine z_fin C hS (va_runS (As := as) (rest := st) ⟨C.1, C.2.1, C.l, C.o, C.W⟩ hM (va_cwS n C.W hG rfl rfl rfl hyd ⟨by omega, by omega⟩) ⟨zP.calls, z_pre C hR hS ha as⟩ rfl hn hL.1 hstk (by show 2 * 0 + _ ≤ 8; omega) hd ⟨by omega, by omega⟩) fun H1 locs1 hR1 hS1 ha1 => ?_
  exact kk H1 locs1 ls _ _ hR1 hS1 ha1 hL (by omega) (by omega)
theorem z_callSN {host : String} (C : zC X cc nL own nm ret fr lc) (hM : zM (xl X) y (.code y cb maxL rty :: TW) rm (xD X) (xT X) (xlo X) al as hi h (v9, hi', h')) (hG : GoodIn TW (.code y cb maxL rty :: TW)) (hl9 : (own, index, y, host) ∈ NWl) (hst9 : .static y ∈ TW) (hini : .initialized y.cls ∈ TW) (hyd : y.cls ≠ "java/lang/invoke/MethodHandle" ∧ y.cls ≠ "java/lang/invoke/VarHandle" ∧ (parseMethodDescriptor y.desc).map (fun d => d.parameters.length) = some n) (hd : decode cc pc = .ok (.invokestatic index, 3)) (hn : as.length = n) (hroom : rm.frames + 1 ≤ fr ∧ 8 + (maxL + 11) + rm.locals ≤ lc) (hk : rm.cells + kc' = kc ∧ rm.slots + ks' = ks) (hw : (st.map fun v => v.category).sum ≤ 8) (hstk : stk = as.reverse ++ st)
    (kk : zW X nL Z kc' ks' al hi' h' (pc + 3) lv (v9.toList ++ st)) : zW X nL Z kc ks al hi h pc lv stk := by
  intro H locs ls cells slots hR hS ha hL hc hs
  have hf := C.f
  have hlc := C.c
  refine z_fin C hS (va_runSN (As := as) (rest := st) (host := host) ⟨C.1, C.2.1, C.l, C.o, C.W⟩ hM ⟨va_cnB n C.W hG rfl rfl rfl (C.N.1 _ hl9) (C.W _ hini) hyd ⟨by omega, by omega⟩, C.W _ hst9, trivial⟩ ⟨zP.calls, z_pre C hR hS ha as⟩ rfl hn hL.1 hstk (by show 2 * 0 + _ ≤ 8; omega) hd ⟨by omega, by omega⟩) fun H1 locs1 hR1 hS1 ha1 => ?_
  exact kk H1 locs1 ls _ _ hR1 hS1 ha1 hL (by omega) (by omega)
theorem z_callI (C : zC X cc nL own nm ret fr lc) (hM : zM (xl X) y (.code y cb maxL none :: TW) rm (xD X) (xT X) (xlo X) al (.ref b :: as) hi h (none, hi', h')) (hG : GoodIn TW (.code y cb maxL none :: TW)) (hini : .initialized y.cls ∈ TW) (hl9 : .methodLink own index y ∈ TW) (hin : .instanceMethod y ∈ TW) (hy1 : y.name = "<init>") (hyd : y.cls ≠ "java/lang/invoke/MethodHandle" ∧ y.cls ≠ "java/lang/invoke/VarHandle" ∧ (parseMethodDescriptor y.desc).map (fun d => d.parameters.length) = some n) (hd : decode cc pc = .ok (.invokespecial index, 3)) (hn : as.length = n) (hroom : rm.frames + 1 ≤ fr ∧ 8 + (maxL + 11) + rm.locals ≤ lc) (hk : rm.cells + kc' = kc ∧ rm.slots + ks' = ks) (hw : (st.map fun v => v.category).sum ≤ 8) (hstk : stk = as.reverse ++ .ref b :: st)
    (kk : zW X nL Z kc' ks' al hi' h' (pc + 3) lv st) : zW X nL Z kc ks al hi h pc lv stk := by
  intro H locs ls cells slots hR hS ha hL hc hs
  have hf := C.f
  have hlc := C.c
  refine z_fin C hS (va_runI (As := as) (rest := st) ⟨C.1, C.2.1, C.l, C.o, C.W⟩ hM (cwI n C.W hG rfl rfl rfl (C.W _ hini) (C.W _ hl9) (C.W _ hin) hy1 hyd ⟨by omega, by omega⟩) ⟨zP.calls, z_pre C hR hS ha (.ref b :: as)⟩ rfl hn hL.1 hstk (by show 2 * 0 + _ ≤ 8; omega) hd ⟨by omega, by omega⟩) fun H1 locs1 hR1 hS1 ha1 => ?_
  exact kk H1 locs1 ls _ _ hR1 hS1 ha1 hL (by omega) (by omega)
theorem z_callIN {host : String} (C : zC X cc nL own nm ret fr lc) (hM : zM (xl X) y (.code y cb maxL none :: TW) rm (xD X) (xT X) (xlo X) al (.ref b :: as) hi h (none, hi', h')) (hG : GoodIn TW (.code y cb maxL none :: TW)) (hini : .initialized y.cls ∈ TW) (hl9 : (own, index, y, host) ∈ NWl) (hin : .instanceMethod y ∈ TW) (hy1 : y.name = "<init>") (hyd : y.cls ≠ "java/lang/invoke/MethodHandle" ∧ y.cls ≠ "java/lang/invoke/VarHandle" ∧ (parseMethodDescriptor y.desc).map (fun d => d.parameters.length) = some n) (hd : decode cc pc = .ok (.invokespecial index, 3)) (hn : as.length = n) (hroom : rm.frames + 1 ≤ fr ∧ 8 + (maxL + 11) + rm.locals ≤ lc) (hk : rm.cells + kc' = kc ∧ rm.slots + ks' = ks) (hw : (st.map fun v => v.category).sum ≤ 8) (hstk : stk = as.reverse ++ .ref b :: st)
    (kk : zW X nL Z kc' ks' al hi' h' (pc + 3) lv st) : zW X nL Z kc ks al hi h pc lv stk := by
  intro H locs ls cells slots hR hS ha hL hc hs
  have hf := C.f
  have hlc := C.c
  refine z_fin C hS (va_runIN (As := as) (rest := st) (host := host) ⟨C.1, C.2.1, C.l, C.o, C.W⟩ hM ⟨va_cnB n C.W hG rfl rfl rfl (C.N.1 _ hl9) (C.W _ hini) hyd ⟨by omega, by omega⟩, hy1, C.W _ hin⟩ ⟨zP.calls, z_pre C hR hS ha (.ref b :: as)⟩ rfl hn hL.1 hstk (by show 2 * 0 + _ ≤ 8; omega) hd ⟨by omega, by omega⟩) fun H1 locs1 hR1 hS1 ha1 => ?_
  exact kk H1 locs1 ls _ _ hR1 hS1 ha1 hL (by omega) (by omega)
theorem z_objInit (C : zC X cc nL own nm ret fr lc) {a : Nat} (hl9 : .methodLink own index objectInit ∈ TW) (hin : .instanceMethod objectInit ∈ TW) (hco : .code objectInit ⟨#[0xb1]⟩ 1 none ∈ TW) (hd : decode cc pc = .ok (.invokespecial index, 3)) (hroom : 1 ≤ fr ∧ (st.map fun v => v.category).sum + 12 ≤ lc) (kk : zW X nL Z kc ks al hi h (pc + 3) lv st) : zW X nL Z kc ks al hi h pc lv (.ref a :: st) := by
  intro H locs ls cells slots hR hS ha hL hc hs
  have hf := C.f
  have hlc := C.c
  exact W.objInit C.1 C.2.1 C.o (C.W _ hl9) (C.W _ hin) (C.W _ hco) rfl (by rw [C.l]; exact hL.1) rfl hd (by omega) (by show 2 * 0 + _ + 12 ≤ _; omega) (kk H locs ls cells slots hR hS ha hL hc hs)
theorem z_abs (C : zC X cc nL own nm ret fr lc) {x : Int32} (hl9 : .methodLink own index Lib.Math.abs.name ∈ TW) (hin : .static Lib.Math.abs.name ∈ TW) (hini : .initialized "java/lang/Math" ∈ TW) (hco : .code Lib.Math.abs.name Lib.Math.abs.code 1 (some .int) ∈ TW) (hd : decode cc pc = .ok (.invokestatic index, 3)) (hroom : 1 ≤ fr ∧ (st.map fun v => v.category).sum + 13 ≤ lc) (kk : zW X nL Z kc ks al hi h (pc + 3) lv (.int (if 0 ≤ x then x else 0 - x) :: st)) : zW X nL Z kc ks al hi h pc lv (.int x :: st) := by
  intro H locs ls cells slots hR hS ha hL hc hs
  have hf := C.f
  have hlc := C.c
  exact va_mabs C.1 C.2.1 (by rw [C.l]; exact hL.1.symm) C.o (C.W _ hl9) (C.W _ hin) (C.W _ hini) (C.W _ hco) (by omega) (by omega) (by omega) (by omega) hd (kk H locs ls cells slots hR hS ha hL hc hs)
theorem z_min (C : zC X cc nL own nm ret fr lc) {x z : Int32} (hl9 : .methodLink own index Lib.Math.min.name ∈ TW) (hin : .static Lib.Math.min.name ∈ TW) (hini : .initialized "java/lang/Math" ∈ TW) (hco : .code Lib.Math.min.name Lib.Math.min.code 2 (some .int) ∈ TW) (hd : decode cc pc = .ok (.invokestatic index, 3)) (hroom : 1 ≤ fr ∧ (st.map fun v => v.category).sum + 13 ≤ lc) (kk : zW X nL Z kc ks al hi h (pc + 3) lv (.int (if z < x then z else x) :: st)) : zW X nL Z kc ks al hi h pc lv (.int z :: .int x :: st) := by
  intro H locs ls cells slots hR hS ha hL hc hs
  have hf := C.f
  have hlc := C.c
  exact va_mmin C.1 C.2.1 (by rw [C.l]; exact hL.1.symm) C.o (C.W _ hl9) (C.W _ hin) (C.W _ hini) (C.W _ hco) (by omega) (by omega) (by omega) (by omega) hd (kk H locs ls cells slots hR hS ha hL hc hs)
theorem z_max (C : zC X cc nL own nm ret fr lc) {x z : Int32} (hl9 : .methodLink own index Lib.Math.max.name ∈ TW) (hin : .static Lib.Math.max.name ∈ TW) (hini : .initialized "java/lang/Math" ∈ TW) (hco : .code Lib.Math.max.name Lib.Math.max.code 2 (some .int) ∈ TW) (hd : decode cc pc = .ok (.invokestatic index, 3)) (hroom : 1 ≤ fr ∧ (st.map fun v => v.category).sum + 13 ≤ lc) (kk : zW X nL Z kc ks al hi h (pc + 3) lv (.int (if x < z then z else x) :: st)) : zW X nL Z kc ks al hi h pc lv (.int z :: .int x :: st) := by
  intro H locs ls cells slots hR hS ha hL hc hs
  have hf := C.f
  have hlc := C.c
  exact va_mmax C.1 C.2.1 (by rw [C.l]; exact hL.1.symm) C.o (C.W _ hl9) (C.W _ hin) (C.W _ hini) (C.W _ hco) (by omega) (by omega) (by omega) (by omega) hd (kk H locs ls cells slots hR hS ha hL hc hs)
theorem z_ldc2 (C : zC X cc nL own nm ret fr lc) {v : Int64} (hw : .constantLong own index v ∈ TW) (hd : decode cc pc = .ok (.ldc2_w index, 3)) (kk : zW X nL Z kc ks al hi h (pc + 3) lv (.long v :: st)) : zW X nL Z kc ks al hi h pc lv st := fun H locs ls cells slots hR hS ha hL hc hs =>
  W.ldc2 C.1 C.2.1 C.o (C.W _ hw) rfl hd (kk H locs ls cells slots hR hS ha hL hc hs)
theorem z_ldc (C : zC X cc nL own nm ret fr lc) {v : Int32} (hw : .constant own index v ∈ TW) (hd : decode cc pc = .ok (.ldc index, 2)) (kk : zW X nL Z kc ks al hi h (pc + 2) lv (.int v :: st)) : zW X nL Z kc ks al hi h pc lv st := fun H locs ls cells slots hR hS ha hL hc hs =>
  W.ldc C.1 C.2.1 C.o (C.W _ hw) rfl hd (kk H locs ls cells slots hR hS ha hL hc hs)
theorem z_ldc_w (C : zC X cc nL own nm ret fr lc) {v : Int32} (hw : .constant own index v ∈ TW) (hd : decode cc pc = .ok (.ldc_w index, 3)) (kk : zW X nL Z kc ks al hi h (pc + 3) lv (.int v :: st)) : zW X nL Z kc ks al hi h pc lv st := fun H locs ls cells slots hR hS ha hL hc hs =>
  lv_ldcw C.1 C.2.1 C.o (C.W _ hw) hd (kk H locs ls cells slots hR hS ha hL hc hs)
theorem z_tswIn (C : zC X cc nL own nm ret fr lc) {x k : Int32} {dflt lo hi9 off : Int} {offs : Array Int} {len tgt : Nat} (hx : x = k) (hd : decode cc pc = .ok (.tableswitch dflt lo hi9 offs, len)) (h9 : ¬ k.toInt < lo ∧ ¬ hi9 < k.toInt ∧ offs[(k.toInt - lo).toNat]? = some off) (ht : (pc : Int) + off = (tgt : Int)) (kk : zW X nL Z kc ks al hi h tgt lv st) : zW X nL Z kc ks al hi h pc lv (.int x :: st) := fun H locs ls cells slots hR hS ha hL hc hs =>
  lv_tableIn C.1 C.2.1 hd (by rw [hx]; exact h9.1) (by rw [hx]; exact h9.2.1) (by rw [hx]; exact h9.2.2) ht (kk H locs ls cells slots hR hS ha hL hc hs)
theorem z_tswOut (C : zC X cc nL own nm ret fr lc) {x : Int32} {dflt lo hi9 : Int} {offs : Array Int} {len tgt : Nat} (hd : decode cc pc = .ok (.tableswitch dflt lo hi9 offs, len)) (h9 : x.toInt < lo ∨ hi9 < x.toInt) (ht : (pc : Int) + dflt = (tgt : Int)) (kk : zW X nL Z kc ks al hi h tgt lv st) : zW X nL Z kc ks al hi h pc lv (.int x :: st) := fun H locs ls cells slots hR hS ha hL hc hs =>
  lv_tableOut C.1 C.2.1 hd h9 ht (kk H locs ls cells slots hR hS ha hL hc hs)
theorem z_lsw (C : zC X cc nL own nm ret fr lc) {x : Int32} {dflt off : Int} {ps : Array (Int × Int)} {len tgt : Nat} (hd : decode cc pc = .ok (.lookupswitch dflt ps, len)) (hp : (ps.toList.zip (ps.toList.drop 1)).all (fun (a, next) => a.1 < next.1) = true) (ho : Op.lookupswitch.offset ps.toList dflt x.toInt = off) (ht : (pc : Int) + off = (tgt : Int)) (kk : zW X nL Z kc ks al hi h tgt lv st) : zW X nL Z kc ks al hi h pc lv (.int x :: st) := fun H locs ls cells slots hR hS ha hL hc hs =>
  lv_lookup C.1 C.2.1 hd hp ho ht (kk H locs ls cells slots hR hS ha hL hc hs)
theorem z_ne {x k : Int32} {i : Int} (hk : k.toInt = i) (h : ¬ x = k) : x.toInt ≠ i := fun e => h (Int32.toInt_inj.mp (e.trans hk.symm))
theorem z_ite {c : Prop} [Decidable c] {A B : Option ρ} {G : Prop} (hf : (if c then A else B) = some r) (kt : c → A = some r → G) (kf : ¬ c → B = some r → G) : G := by
  by_cases hc : c
  · rw [if_pos hc] at hf; exact kt hc hf
  · rw [if_neg hc] at hf; exact kf hc hf
/-- a point where roads meet -/
def zJ {α : Type} {ρ : Type} (J : α) (F : α → Option ρ) : Option ρ := F J
theorem z_join {α : Type} {P : α → Prop} {G : Prop} {J : α} {F : α → Option ρ} (hf : zJ J F = some r) (h1 : P J) (h2 : ∀ J', P J' → F J' = some r → G) : G := h2 J h1 hf
/-- new objects and arrays, in a method that makes things: they come at the heap's end -/
def zni (own : String) (index ci : Nat) (n9 : Nat) (fs : List Value) : Prop := ∃ (Cn : String) (T : u_T) (ty : Nat → FieldType), vwCl[ci]? = some (Cn, T, n9) ∧ (∀ w ∈ u_ws Cn T n9, w ∈ TW) ∧ (∀ k, k < n9 → parseFieldDescriptor (T k).2.2.1 = some (ty k)) ∧ .classLink own index Cn ∈ TW ∧ .instantiable Cn n9 ∈ TW ∧ .initialized Cn ∈ TW ∧ (∀ j, j < n9 → defaultValue (ty j) = vp_V fs j)
theorem z_new (C : zC X cc nL own nm ret fr lc) {n9 : Nat} {fs : List Value} (hN : zni own index ci n9 fs) (hal : al = true) (hd : decode cc pc = .ok (.new index, 3)) (hk : 1 + kc' = kc ∧ n9 + ks' = ks) (kk : zW X nL Z kc' ks' al (hi + 1) (va_up h hi (some (.inr (ci, fs)))) (pc + 3) lv (.ref hi :: st)) : zW X nL Z kc ks al hi h pc lv st := by
  obtain ⟨Cn, T, ty, hcl, hin, hty, hw1, hw2, hw3, hfs⟩ := hN
  intro H locs ls cells slots hR hS ha hL hc hs
  have hKn := C.K.1 ci _ hcl
  have hsz := ha hal
  refine W.newcK C.1 C.2.1 C.o (C.W _ hw1) (C.W _ hw2) (C.W _ hw3) rfl hd (by omega) (by omega) hKn.2.1 hsz fun H1 kC hkC e1 z1 o1 => ?_
  exact kk H1 locs ls (cells + 1) (slots + n9) (hR.push hsz (by rw [← hsz]; exact Nat.le_trans C.z hS.1) ⟨_, hcl, (u_born ty C.W hin hKn hkC e1 hty).to hfs⟩ o1) ⟨Nat.le_trans hS.1 (by omega), fun x h1 h2 => (o1 x (by rw [← hsz]; exact Nat.lt_of_lt_of_le h1 hS.1)).trans (hS.2.1 x h1 h2), hS.2.2⟩ (fun _ => z1) hL (by omega) (by omega)
end ZCall
