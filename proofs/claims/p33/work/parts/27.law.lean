/-! rows of the law's own methods: they call methods that catch, and one another; the room that a call takes is counted -/
def zCL (X : zX) (cc : ByteArray) (nL : Nat) (own nm : String) (ret : Option FieldType) (fr lc : Nat) : Prop := zC X cc nL own nm ret fr lc ∧ zE (xlo X) (xs X) ∧ zNC (xs X) ∧ (xl X).stackTraces = false
theorem z_enterL {l : Launch} (hl9 : l.stackTraces = false) {y : MethodName} {cc : ByteArray} {maxL : Nat} {ret : Option FieldType} {own nm : String} {rm : Room} {D : va_G} {T : zT} {lo : Nat} {av : List Value} {hi : Nat} {h : zH} {r : zRes} {lv : List (Nat × Value)} (hy : plainName y.cls = true) (ho : y.cls = own) (hn : y.name = nm) (hl : (lg_sl av).length ≤ maxL) (hlv : lv_args 0 av = lv)
    (body : ∀ (p : Program) (e : Env) (s : State) (m : MethodId) (ar : Array Value) (below : List Frame) (meth : Method) (c : Code), zCL (p, l, e, rm, s, m, ar, below, meth, c, D, T, lo) cc maxL own nm ret rm.frames rm.locals →
      zW (p, l, e, rm, s, m, ar, below, meth, c, D, T, lo) maxL (zZ (p, l, e, rm, s, m, ar, below, meth, c, D, T, lo) false r) rm.cells rm.slots false hi h 0 lv []) : zMW l y (.code y cc maxL ret :: TW) rm D T lo av hi h r := by
  unfold zMW
  refine Met.ofW (cc := cc) (maxL := maxL) (ret := ret) hy rfl ?_
  intro p e s m args below meth c s₁ B hml hv
  obtain ⟨rfl, ⟨⟨hlo, hR, hK, hal, hN⟩, hE⟩, hNC⟩ := hv
  have hts := atoms_spec (ws := .code y cc maxL ret :: TW) B.pre
  have hown : s.vm.findClass own = some m.cls := ho ▸ findClass_of_methodNamed B.named
  have hnm : meth.name = nm := hn ▸ (name_of_methodNamed B.named B.method).1
  have C : zC (p, l, e, rm, s, m, av.toArray, below, meth, c, D, T, lo) cc maxL own nm ret rm.frames rm.locals := ⟨B.exec, B.bytes, hml, hown, fun w hw => hts w (List.mem_cons_of_mem _ hw), hK, hlo, B.notSynchronized, B.returns, hnm, Nat.le_refl _, Nat.le_refl _, hN⟩
  have hL := lv_entry av (n := maxL) hl
  rw [lg_entry_eq]
  rw [hlv] at hL
  exact body p e s m av.toArray below meth c ⟨C, hE, hNC, hl9⟩ s.heap [] _ 0 0 hR va_S.rf hal hL (Nat.le_of_eq (Nat.zero_add _)) (Nat.le_of_eq (Nat.zero_add _))
/-- a call that is counted once; a call that tells its count -/
def zcn {α β : Type} (k : Nat) (x : Option (α × zH)) (G : α → zH → Option (β × zH × Nat)) : Option (β × zH × Nat) := match x with
  | none => none
  | some (v, h) => match G v h with
    | none => none
    | some (w, g, n) => some (w, g, n + k)
def zcl {α β : Type} (x : Option (α × zH × Nat)) (G : α → zH → Option (β × zH × Nat)) : Option (β × zH × Nat) := match x with
  | none => none
  | some (v, h, m) => match G v h with
    | none => none
    | some (w, g, n) => some (w, g, n + m)
theorem zcnE {α β : Type} {k : Nat} {x : Option (α × zH)} {G : α → zH → Option (β × zH × Nat)} {w : β} {g : zH} {n : Nat} (hf : zcn k x G = some (w, g, n)) : ∃ v h n', x = some (v, h) ∧ G v h = some (w, g, n') ∧ n = n' + k := by
  unfold zcn at hf
  split at hf
  · cases hf
  · split at hf
    · cases hf
    · rename_i e
      cases hf
      exact ⟨_, _, _, rfl, e, rfl⟩
theorem zclE {α β : Type} {x : Option (α × zH × Nat)} {G : α → zH → Option (β × zH × Nat)} {w : β} {g : zH} {n : Nat} (hf : zcl x G = some (w, g, n)) : ∃ v h m n', x = some (v, h, m) ∧ G v h = some (w, g, n') ∧ n = n' + m := by
  unfold zcl at hf
  split at hf
  · cases hf
  · split at hf
    · cases hf
    · rename_i e
      cases hf
      exact ⟨_, _, _, _, rfl, e, rfl⟩
def zMS (l : Launch) (y : MethodName) (ws : List Cond) (rm : Room) (D : va_G) (T : zT) (lo bs L : Nat) (xv : Nat → Int32) (av : List Value) (hi : Nat) (h : zH) (r : zRes) : Prop :=
  Met l y ws rm (va_Pc av (fun U => zP false D T lo hi h U ∧ va_X bs L xv U U.heap ∧ bs < lo)) (zQ false D lo r) rm.cells rm.slots (fun q => lo ≤ q)
def zCS (X : zX) (cc : ByteArray) (nL : Nat) (own nm : String) (ret : Option FieldType) (fr lc bs L : Nat) (xv : Nat → Int32) : Prop := zC X cc nL own nm ret fr lc ∧ va_X bs L xv (xs X) (xs X).heap ∧ bs < xlo X
theorem z_enterS {l : Launch} {y : MethodName} {cc : ByteArray} {maxL : Nat} {ret : Option FieldType} {own nm : String} {rm : Room} {D : va_G} {T : zT} {lo bs L : Nat} {xv : Nat → Int32} {av : List Value} {hi : Nat} {h : zH} {r : zRes} {lv : List (Nat × Value)} (hy : plainName y.cls = true) (ho : y.cls = own) (hn : y.name = nm) (hl : (lg_sl av).length ≤ maxL) (hlv : lv_args 0 av = lv)
    (body : ∀ (p : Program) (e : Env) (s : State) (m : MethodId) (ar : Array Value) (below : List Frame) (meth : Method) (c : Code), zCS (p, l, e, rm, s, m, ar, below, meth, c, D, T, lo) cc maxL own nm ret rm.frames rm.locals bs L xv →
      zW (p, l, e, rm, s, m, ar, below, meth, c, D, T, lo) maxL (zZ (p, l, e, rm, s, m, ar, below, meth, c, D, T, lo) false r) rm.cells rm.slots false hi h 0 lv []) : zMS l y (.code y cc maxL ret :: TW) rm D T lo bs L xv av hi h r := by
  unfold zMS
  refine Met.ofW (cc := cc) (maxL := maxL) (ret := ret) hy rfl ?_
  intro p e s m args below meth c s₁ B hml hv
  obtain ⟨rfl, ⟨hlo, hR, hK, hal, hN⟩, hX, hbl⟩ := hv
  have hts := atoms_spec (ws := .code y cc maxL ret :: TW) B.pre
  have hown : s.vm.findClass own = some m.cls := ho ▸ findClass_of_methodNamed B.named
  have hnm : meth.name = nm := hn ▸ (name_of_methodNamed B.named B.method).1
  have C : zC (p, l, e, rm, s, m, av.toArray, below, meth, c, D, T, lo) cc maxL own nm ret rm.frames rm.locals := ⟨B.exec, B.bytes, hml, hown, fun w hw => hts w (List.mem_cons_of_mem _ hw), hK, hlo, B.notSynchronized, B.returns, hnm, Nat.le_refl _, Nat.le_refl _, hN⟩
  have hL := lv_entry av (n := maxL) hl
  rw [lg_entry_eq]
  rw [hlv] at hL
  exact body p e s m av.toArray below meth c ⟨C, hX, hbl⟩ s.heap [] _ 0 0 hR va_S.rf hal hL (Nat.le_of_eq (Nat.zero_add _)) (Nat.le_of_eq (Nat.zero_add _))
section ZLaw
variable {X : zX} {cc : ByteArray} {nL : Nat} {own nm : String} {ret : Option FieldType} {fr lc : Nat} {Z : State → Prop} {kc ks kc' ks' hi : Nat} {h : zH} {pc : Nat} {lv : List (Nat × Value)} {st stk : List Value} {ρ : Type} {r : ρ} {al : Bool}
variable {y : MethodName} {cb : ByteArray} {maxL n index : Nat} {rty : Option FieldType} {rm : Room} {as : List Value} {bs L : Nat} {xv : Nat → Int32} {v9 : Value} {h' : zH} {hh9 : List (Nat × Nat × Nat × Nat)}
theorem z_ishl (C : zC X cc nL own nm ret fr lc) {x y : Int32} (hd : decode cc pc = .ok (.ishl, 1)) (kk : zW X nL Z kc ks al hi h (pc + 1) lv (.int (x <<< (y &&& 31)) :: st)) : zW X nL Z kc ks al hi h pc lv (.int y :: .int x :: st) := fun H locs ls cells slots hR hS ha hL hc hs => lv_ishl C.1 C.2.1 hd (kk H locs ls cells slots hR hS ha hL hc hs)
theorem z_ishr (C : zC X cc nL own nm ret fr lc) {x y : Int32} (hd : decode cc pc = .ok (.ishr, 1)) (kk : zW X nL Z kc ks al hi h (pc + 1) lv (.int (x >>> (y &&& 31)) :: st)) : zW X nL Z kc ks al hi h pc lv (.int y :: .int x :: st) := fun H locs ls cells slots hR hS ha hL hc hs => lv_ishr C.1 C.2.1 hd (kk H locs ls cells slots hR hS ha hL hc hs)
theorem z_callL (C : zCL X cc nL own nm ret fr lc) (hM : zMW (xl X) y (.code y cb maxL rty :: TW) rm (xD X) (xT X) (xlo X) as hi h (some v9, hi, h')) (hG : GoodIn TW (va_wsS own index y (.code y cb maxL rty :: TW))) (hyd : y.cls ≠ "java/lang/invoke/MethodHandle" ∧ y.cls ≠ "java/lang/invoke/VarHandle" ∧ (parseMethodDescriptor y.desc).map (fun d => d.parameters.length) = some n) (hd : decode cc pc = .ok (.invokestatic index, 3)) (hn : as.length = n) (hroom : rm.frames + 1 ≤ fr ∧ 8 + (maxL + 11) + rm.locals ≤ lc) (hk : rm.cells + kc' = kc ∧ rm.slots + ks' = ks) (hw : (st.map fun v => v.category).sum ≤ 8) (hstk : stk = as.reverse ++ st)
    (kk : zW X nL Z kc' ks' false hi h' (pc + 3) lv (v9 :: st)) : zW X nL Z kc ks false hi h pc lv stk := by
  intro H locs ls cells slots hR hS ha hL hc hs
  have hf := C.1.f
  have hlc := C.1.c
  refine z_fin (v9 := some v9) (hi' := hi) C.1 hS (va_runS (As := as) (rest := st) ⟨C.1.1, C.1.2.1, C.1.l, C.1.o, C.1.W⟩ hM (va_cwS n C.1.W hG rfl rfl rfl hyd ⟨by omega, by omega⟩) ⟨zPW.calls, fun U hU hW => ⟨rfl, ⟨(z_pre (al := false) C.1 hR hS (fun t => nomatch t) as U hU hW).2, C.2.1.warm hU hW hS⟩, fun q hq => (C.2.2.1 q hq).moved hW.alike⟩⟩ rfl hn hL.1 hstk (by show 2 * 0 + _ ≤ 8; omega) hd ⟨by omega, by omega⟩) fun H1 locs1 hR1 hS1 ha1 => ?_
  exact kk H1 locs1 ls _ _ hR1 hS1 ha1 hL (by omega) (by omega)
theorem z_callLW (C : zCL X cc nL own nm ret fr lc) (hM : zMW (xl X) y (.codeWith y cb maxL rty hh9 :: TW) rm (xD X) (xT X) (xlo X) as hi h (some v9, hi, h')) (hG : GoodIn TW (va_wsS own index y (.codeWith y cb maxL rty hh9 :: TW))) (hyd : y.cls ≠ "java/lang/invoke/MethodHandle" ∧ y.cls ≠ "java/lang/invoke/VarHandle" ∧ (parseMethodDescriptor y.desc).map (fun d => d.parameters.length) = some n) (hd : decode cc pc = .ok (.invokestatic index, 3)) (hn : as.length = n) (hroom : rm.frames + 1 ≤ fr ∧ 8 + (maxL + 11) + rm.locals ≤ lc) (hk : rm.cells + kc' = kc ∧ rm.slots + ks' = ks) (hw : (st.map fun v => v.category).sum ≤ 8) (hstk : stk = as.reverse ++ st)
    (kk : zW X nL Z kc' ks' false hi h' (pc + 3) lv (v9 :: st)) : zW X nL Z kc ks false hi h pc lv stk := by
  intro H locs ls cells slots hR hS ha hL hc hs
  have hf := C.1.f
  have hlc := C.1.c
  refine z_fin (v9 := some v9) (hi' := hi) C.1 hS (vx_runSW (As := as) (rest := st) ⟨C.1.1, C.1.2.1, C.1.l, C.1.o, C.1.W⟩ hM (vx_cwSW n C.1.W hG rfl rfl rfl hyd ⟨by omega, by omega⟩) ⟨zPW.calls, fun U hU hW => ⟨rfl, ⟨(z_pre (al := false) C.1 hR hS (fun t => nomatch t) as U hU hW).2, C.2.1.warm hU hW hS⟩, fun q hq => (C.2.2.1 q hq).moved hW.alike⟩⟩ rfl hn hL.1 hstk (by show 2 * 0 + _ ≤ 8; omega) hd ⟨by omega, by omega⟩) fun H1 locs1 hR1 hS1 ha1 => ?_
  exact kk H1 locs1 ls _ _ hR1 hS1 ha1 hL (by omega) (by omega)
def zsc (xv : Nat → Int32) (L : Nat) (i : Int32) : Option Int32 := if zin i L then some (xv i.toNatClampNeg) else none
theorem z_sld {G : Int32 → Option ρ} (C : zCS X cc nL own nm ret fr lc bs L xv) {i : Int32} (hd : decode cc pc = .ok (.iaload, 1)) (hf : (zsc xv L i).bind G = some r) (kk : ∀ v, G v = some r → zW X nL Z kc ks al hi h (pc + 1) lv (.int v :: st)) : zW X nL Z kc ks al hi h pc lv (.int i :: .ref bs :: st) := by
  obtain ⟨v, h1, h2⟩ := zbind hf
  have kk := kk v h2
  unfold zsc at h1
  by_cases hin : zin i L
  case neg => rw [if_neg hin] at h1; cases h1
  rw [if_pos hin] at h1
  cases h1
  intro H locs ls cells slots hR hS ha hL hc hs
  exact va_sld C.1.1 C.1.2.1 C.2.1 (Nat.lt_of_lt_of_le C.2.2 C.1.z) (Nat.not_le.mpr C.2.2) hS hin hd (kk H locs ls cells slots hR hS ha hL hc hs)
theorem z_slen (C : zCS X cc nL own nm ret fr lc bs L xv) (hd : decode cc pc = .ok (.arraylength, 1)) (kk : zW X nL Z kc ks al hi h (pc + 1) lv (.int (Int32.ofNat L) :: st)) : zW X nL Z kc ks al hi h pc lv (.ref bs :: st) := by
  intro H locs ls cells slots hR hS ha hL hc hs
  exact va_slen C.1.1 C.1.2.1 C.2.1 (Nat.lt_of_lt_of_le C.2.2 C.1.z) (Nat.not_le.mpr C.2.2) hS hd (kk H locs ls cells slots hR hS ha hL hc hs)
theorem z_al (kk : zW X nL Z kc ks false hi h pc lv st) : zW X nL Z kc ks true hi h pc lv st := fun H locs ls cells slots hR hS _ hL hc hs => kk H locs ls cells slots hR hS (fun t => nomatch t) hL hc hs
/-- the law calls a method that reads the script -/
theorem z_callC (C : zC X cc nL own nm ret fr lc) (hX : va_X bs L xv (xs X) (xs X).heap) (hbl : bs < xlo X) (hM : zMS (xl X) y (.code y cb maxL rty :: TW) rm (xD X) (xT X) (xlo X) bs L xv as hi h (some v9, hi, h')) (hG : GoodIn TW (va_wsS own index y (.code y cb maxL rty :: TW))) (hyd : y.cls ≠ "java/lang/invoke/MethodHandle" ∧ y.cls ≠ "java/lang/invoke/VarHandle" ∧ (parseMethodDescriptor y.desc).map (fun d => d.parameters.length) = some n) (hd : decode cc pc = .ok (.invokestatic index, 3)) (hn : as.length = n) (hroom : rm.frames + 1 ≤ fr ∧ 8 + (maxL + 11) + rm.locals ≤ lc) (hk : rm.cells + kc' = kc ∧ rm.slots + ks' = ks) (hw : (st.map fun v => v.category).sum ≤ 8) (hstk : stk = as.reverse ++ st)
    (kk : zW X nL Z kc' ks' false hi h' (pc + 3) lv (v9 :: st)) : zW X nL Z kc ks false hi h pc lv stk := by
  intro H locs ls cells slots hR hS ha hL hc hs
  have hf := C.f
  have hlc := C.c
  refine z_fin (v9 := some v9) (hi' := hi) C hS (va_runS (As := as) (rest := st) ⟨C.1, C.2.1, C.l, C.o, C.W⟩ hM (va_cwS n C.W hG rfl rfl rfl hyd ⟨by omega, by omega⟩) ⟨fun a U g mk q => ⟨q.1, (zP.calls a U g mk ⟨q.1, q.2.1⟩).2, q.2.2.1.moved (Vm.Alike.refl U.vm), q.2.2.2⟩, fun U hU hW => ⟨rfl, (z_pre (al := false) C hR hS (fun t => nomatch t) as U hU hW).2, (by rw [hU]; exact (hX.kept (hS.2.1 bs (Nat.lt_of_lt_of_le hbl C.z) (Nat.not_le.mpr hbl))).moved hW.alike), hbl⟩⟩ rfl hn hL.1 hstk (by show 2 * 0 + _ ≤ 8; omega) hd ⟨by omega, by omega⟩) fun H1 locs1 hR1 hS1 ha1 => ?_
  exact kk H1 locs1 ls _ _ hR1 hS1 ha1 hL (by omega) (by omega)
end ZLaw
