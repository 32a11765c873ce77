/-! methods that throw: they return, or are left by an exception of a class of their own making; the heap that they leave holds a map in both cases -/
def EXN : List String := ["java/lang/RuntimeException", "java/lang/Exception"]
def STl : List (String × Nat × String) := [("CrossedSheet", 311, "an argument is out of its range"), ("CrossedSheet", 78, "the text is full"), ("CrossedSheet", 91, "the text is not a sheet"), ("CrossedSheet", 318, "no such letter"), ("CrossedSheet", 326, "no such cell"), ("CrossedSheet", 332, "no such cell or mark"), ("CrossedSheet", 337, "no such word"), ("CrossedSheet", 195, "a negative number of a sign"), ("CrossedSheet", 227, "the other mark of the cell is decided for this letter"), ("CrossedSheet", 242, "no state is remembered"), ("CrossedSheet", 321, "no such save slot"), ("CrossedSheet", 306, "nothing has been saved in this slot"), ("CrossedSheet", 251, "these are not signs"), ("CrossedSheet", 283, "the script is negative or too long"), ("CrossedSheet", 211, "the cell has two marks")]
def CAl : List (String × String) := [("java/lang/IllegalArgumentException", "java/lang/IllegalArgumentException"), ("java/lang/IllegalStateException", "java/lang/IllegalStateException"), ("java/lang/IndexOutOfBoundsException", "java/lang/IndexOutOfBoundsException")]
def DEl : List MethodName := [⟨"java/lang/RuntimeException", "<init>", "()V"⟩, ⟨"java/lang/RuntimeException", "<init>", "(Ljava/lang/String;)V"⟩, ⟨"java/lang/Exception", "<init>", "()V"⟩, ⟨"java/lang/Exception", "<init>", "(Ljava/lang/String;)V"⟩, ⟨"java/lang/Throwable", "<init>", "()V"⟩, ⟨"java/lang/Throwable", "<init>", "(Ljava/lang/String;)V"⟩]
def NOl : List Cond := CAl.map (fun q => Cond.castable q.1 q.2) ++ DEl.map (fun x => Cond.declares x)
def zE (lo : Nat) (U : State) : Prop := vx_Zq Bundle.tN "UNASSIGNED_STACK" Bundle.steD (fun q => lo ≤ q) U U.heap ∧ vx_Zq Bundle.tN "SUPPRESSED_SENTINEL" Bundle.listD (fun q => lo ≤ q) U U.heap ∧ (∀ q ∈ STl, ∃ sa, vk_R q.1 q.2.1 q.2.2 sa U) ∧ (∀ q ∈ CAl, va_Nw (.castable q.1 q.2) U) ∧ ∀ x ∈ DEl, va_Nw (.declares x) U
theorem zE.same {lo : Nat} {u U : State} (hv : u.vm = U.vm) (hh : U.heap = u.heap) (h : zE lo u) : zE lo U := by
  obtain ⟨h1, h2, h3, h4, h5⟩ := h
  have ha : u.vm.Alike U.vm := by rw [hv]; exact Vm.Alike.refl U.vm
  refine ⟨?_, ?_, fun q hq => ?_, fun q hq => va_Nw.same rfl hv (h4 q hq), fun x hx => va_Nw.same rfl hv (h5 x hx)⟩
  · rw [hh]; exact h1.moved ha
  · rw [hh]; exact h2.moved ha
  · obtain ⟨sa, hsa⟩ := h3 q hq
    exact ⟨sa, vk_R.same hv.symm hsa⟩
theorem zE.warm {lo : Nat} {s U : State} {H : Heap} {locs : List Loc} (hU : U.heap = H) (hW : s.WarmedH U.vm) (hS : va_S (fun q => lo ≤ q) s.heap H locs) (h : zE lo s) : zE lo U := by
  obtain ⟨h1, h2, h3, h4, h5⟩ := h
  refine ⟨?_, ?_, fun q hq => ?_, fun q hq => va_Nw.warmC hW (h4 q hq), fun x hx => va_Nw.warmD hW (h5 x hx)⟩
  · rw [hU]; exact (h1.kept hS.2.1).moved hW.alike
  · rw [hU]; exact (h2.kept hS.2.1).moved hW.alike
  · obtain ⟨sa, hsa⟩ := h3 q hq
    exact ⟨sa, vk_R.warm hW hsa⟩
abbrev zResX : Type := (Option Value ⊕ String) × zH
def zQX (D : va_G) (lo : Nat) (r : zResX) : Array Value → State → Outcome → State → Prop := fun _ st o t => (∃ v, r.1 = .inl v ∧ o = .returned v ∧ zR D lo r.2 t.heap) ∧ va_F (fun q => lo ≤ q) st t
def zXX (D : va_G) (lo : Nat) (r : zResX) : String → State → State → Prop := fun E st t => r.1 = .inr E ∧ zR D lo r.2 t.heap ∧ va_F (fun q => lo ≤ q) st t
def zZX (X : zX) (r : zResX) : State → Prop := vx_MQ (xb X) (zQX (xD X) (xlo X) r) (zXX (xD X) (xlo X) r) (xa X) (xs X) (xR X).cells (xR X).slots (fun q => xlo X ≤ q)
def zPX (D : va_G) (T : zT) (lo hi : Nat) (h : zH) : State → Prop := fun U => zP false D T lo hi h U ∧ zE lo U
def zMX (l : Launch) (y : MethodName) (ws : List Cond) (rm : Room) (D : va_G) (T : zT) (lo : Nat) (av : List Value) (hi : Nat) (h : zH) (r : zResX) : Prop :=
  vx_Met l y ws rm (va_Pc av (zPX D T lo hi h)) (zQX D lo r) (zXX D lo r) rm.cells rm.slots (fun q => lo ≤ q)
theorem zPX.calls {D : va_G} {T : zT} {lo hi : Nat} {h : zH} {av : List Value} : FrameBlind (va_Pc av (zPX D T lo hi h)) := fun a U g mk q => ⟨q.1, (zP.calls a U g mk ⟨q.1, q.2.1⟩).2, zE.same (u := U) (U := U.calling g mk a) rfl rfl q.2.2⟩
def zCX (X : zX) (cc : ByteArray) (nL : Nat) (own nm : String) (ret : Option FieldType) (fr lc : Nat) : Prop := zC X cc nL own nm ret fr lc ∧ zE (xlo X) (xs X) ∧ (∀ x ∈ (xc X).exceptionTable.toList, False) ∧ (xl X).stackTraces = false
def zx {α : Type} (cv : α → Option Value) (x : Except String α) : Option Value ⊕ String := match x with
  | .ok v => .inl (cv v)
  | .error E => .inr E
def cvI (v : Int32) : Option Value := some (.int v)
def cvU (_ : Unit) : Option Value := none
def zbx {α β : Type} (x : Option (Except String α × zH)) (G : α → zH → Option (Except String β × zH)) : Option (Except String β × zH) := match x with
  | none => none
  | some (.error E, h) => some (.error E, h)
  | some (.ok v, h) => G v h
theorem z_enterX {l : Launch} (hl9 : l.stackTraces = false) {y : MethodName} {cc : ByteArray} {maxL : Nat} {ret : Option FieldType} {own nm : String} {rm : Room} {D : va_G} {T : zT} {lo : Nat} {av : List Value} {hi : Nat} {h : zH} {r : zResX} {lv : List (Nat × Value)} (hy : plainName y.cls = true) (ho : y.cls = own) (hn : y.name = nm) (hl : (lg_sl av).length ≤ maxL) (hlv : lv_args 0 av = lv)
    (body : ∀ (p : Program) (e : Env) (s : State) (m : MethodId) (ar : Array Value) (below : List Frame) (meth : Method) (c : Code), zCX (p, l, e, rm, s, m, ar, below, meth, c, D, T, lo) cc maxL own nm ret rm.frames rm.locals →
      zW (p, l, e, rm, s, m, ar, below, meth, c, D, T, lo) maxL (zZX (p, l, e, rm, s, m, ar, below, meth, c, D, T, lo) r) rm.cells rm.slots false hi h 0 lv []) : zMX l y (.code y cc maxL ret :: TW) rm D T lo av hi h r := by
  unfold zMX
  refine vx_ofW (cc := cc) (maxL := maxL) (ret := ret) hy rfl ?_
  intro p e s m args below meth c s₁ B hml hnt hv
  obtain ⟨rfl, ⟨hlo, hR, hK, hal, hN⟩, hE⟩ := hv
  have hts := atoms_spec (ws := .code y cc maxL ret :: TW) B.pre
  have hown : s.vm.findClass own = some m.cls := ho ▸ findClass_of_methodNamed B.named
  have hnm : meth.name = nm := hn ▸ (name_of_methodNamed B.named B.method).1
  have C : zC (p, l, e, rm, s, m, av.toArray, below, meth, c, D, T, lo) cc maxL own nm ret rm.frames rm.locals := ⟨B.exec, B.bytes, hml, hown, fun w hw => hts w (List.mem_cons_of_mem _ hw), hK, hlo, B.notSynchronized, B.returns, hnm, Nat.le_refl _, Nat.le_refl _, hN⟩
  have hL := lv_entry av (n := maxL) hl
  rw [lg_entry_eq]
  rw [hlv] at hL
  exact body p e s m av.toArray below meth c ⟨C, hE, hnt, hl9⟩ s.heap [] _ 0 0 hR va_S.rf hal hL (Nat.le_of_eq (Nat.zero_add _)) (Nat.le_of_eq (Nat.zero_add _))
section ZThrow
variable {X : zX} {cc : ByteArray} {nL : Nat} {own nm : String} {ret : Option FieldType} {fr lc : Nat} {Z : State → Prop} {kc ks kc' ks' hi : Nat} {h : zH} {pc : Nat} {lv : List (Nat × Value)} {st stk : List Value} {ρ : Type} {r : ρ}
theorem z_preX (C : zCX X cc nL own nm ret fr lc) {H : Heap} {locs : List Loc} (hR : zR (xD X) (xlo X) h H) (hS : va_S (fun q => xlo X ≤ q) (xs X).heap H locs) (av : List Value) : ∀ U : State, U.heap = H → (xs X).WarmedH U.vm → va_Pc av (zPX (xD X) (xT X) (xlo X) hi h) av.toArray U := fun U hU hW =>
  ⟨rfl, (z_pre (al := false) C.1 hR hS (fun t => nomatch t) av U hU hW).2, C.2.1.warm hU hW hS⟩
theorem z_ireturnX (C : zCX X cc nL own nm (some .int) fr lc) {v : Int32} {R9 : zResX} (hd : decode cc pc = .ok (.ireturn, 1)) (e9 : (.inl (some (.int v)), h) = R9) : zW X nL (zZX X R9) kc ks false hi h pc lv [.int v] := by
  subst e9
  intro H locs ls cells slots hR hS ha hL hc hs
  exact W.widen (k := (xR X).cells) (n := (xR X).slots) (by omega) (by omega) (vx_ret (W.iret C.1.1 C.1.2.1 C.1.rt (fun t ht hW => ⟨⟨_, rfl, rfl, by rw [ht]; exact hR⟩, hS.F ht⟩) hS.2.2 hd C.1.s))
theorem z_zreturnX (C : zCX X cc nL own nm (some .boolean) fr lc) {v : Int32} {R9 : zResX} (hd : decode cc pc = .ok (.ireturn, 1)) (hv : v = 0 ∨ v = 1) (e9 : (.inl (some (.int v)), h) = R9) : zW X nL (zZX X R9) kc ks false hi h pc lv [.int v] := by
  subst e9
  intro H locs ls cells slots hR hS ha hL hc hs
  exact W.widen (k := (xR X).cells) (n := (xR X).slots) (by omega) (by omega) (vx_ret (W.zret C.1.1 C.1.2.1 C.1.rt (by rcases hv with rfl | rfl <;> rfl) (fun t ht hW => ⟨⟨_, rfl, rfl, by rw [ht]; exact hR⟩, hS.F ht⟩) hS.2.2 hd C.1.s))
theorem z_vreturnX (C : zCX X cc nL own nm none fr lc) {R9 : zResX} (hd : decode cc pc = .ok (.return_, 1)) (e9 : (.inl none, h) = R9) : zW X nL (zZX X R9) kc ks false hi h pc lv [] := by
  subst e9
  intro H locs ls cells slots hR hS ha hL hc hs
  exact W.widen (k := (xR X).cells) (n := (xR X).slots) (by omega) (by omega) (vx_ret (W.vret C.1.1 C.1.2.1 C.1.rt (fun t ht hW => ⟨⟨_, rfl, rfl, by rw [ht]; exact hR⟩, hS.F ht⟩) hS.2.2 hd C.1.s))
/-- a site of 'throw new E(text)' -/
def zTS (own E text : String) (ik is ic : Nat) : Prop := .classLink own ik E ∈ TW ∧ .initialized E ∈ TW ∧ (own, is, text) ∈ STl ∧ (∀ w ∈ (vx_atS own ic E EXN).filter goodWord, w ∈ TW) ∧ (∀ w ∈ (vx_atS own ic E EXN).filter (fun w => !goodWord w), w ∈ NOl) ∧ (∀ w ∈ Cond.classLink own ik E :: Cond.initialized E :: vx_atS own ic E EXN, vx_ot w = true) ∧ Bundle.fit E = true ∧ (∀ n ∈ EXN, Bundle.fit n = true)
theorem zTS.at {own E text : String} {ik is ic : Nat} (hT : zTS own E text ik is ic) (C : zCX X cc nL own nm ret fr lc) : ∀ w ∈ vx_atS own ic E EXN, w.before (xa X) (xs X) = true := by
  refine vx_hat (B := NOl) (fun w hw => C.1.W w (hT.2.2.2.1 w hw)) hT.2.2.2.2.1 fun w hw => ?_
  rcases List.mem_append.mp hw with h1 | h1
  · obtain ⟨q, hq, rfl⟩ := List.mem_map.mp h1
    exact va_Nw.use rfl (C.2.1.2.2.2.1 q hq)
  · obtain ⟨x, hx, rfl⟩ := List.mem_map.mp h1
    exact va_Nw.use rfl (C.2.1.2.2.2.2 x hx)
theorem z_throw (C : zCX X cc nL own nm ret fr lc) {E text : String} {ik is ic : Nat} {R9 : zResX} (hT : zTS own E text ik is ic)
    (d0 : decode cc pc = .ok (.new ik, 3)) (d3 : decode cc (pc + 3) = .ok (.dup, 1)) (d4 : decode cc (pc + 4) = .ok (.ldc is, 2)) (d6 : decode cc (pc + 6) = .ok (.invokespecial ic, 3)) (d9 : decode cc (pc + 9) = .ok (.athrow, 1))
    (hroom : 6 ≤ fr ∧ (st.map fun v => v.category).sum + 82 ≤ lc) (hk : 1 ≤ kc ∧ 6 ≤ ks) (e9 : (.inr E, h) = R9) : zW X nL (zZX X R9) kc ks false hi h pc lv st := by
  subst e9
  intro H locs ls cells slots hR hS ha hL hc hs
  obtain ⟨sa, hsa⟩ := C.2.1.2.2.1 _ hT.2.2.1
  have hf := C.1.f
  have hlc := C.1.c
  exact vx_throwS C.1.1 C.1.2.1 C.2.2.2 C.1.o hT.2.2.2.2.2.2.1 hT.2.2.2.2.2.2.2 (C.1.W _ hT.1) (C.1.W _ hT.2.1) hsa (hT.at C) hT.2.2.2.2.2.1 C.2.1.1 C.2.1.2.1 hS (by rw [C.1.l]; exact hL.1) d0 d3 d4 d6 d9 (fun x hx => (C.2.2.1 x hx).elim)
    (by show 2 + 3 < _; omega) (by show _ + (13 * (2 + 1) + 43) ≤ _; omega) (by omega) (by omega) C.1.s
    (fun t hvm hz hk9 => ⟨rfl, fun a x hax => ⟨(hR a x hax).1, (hR a x hax).2.kept (hk9 a (hR.lt hax))⟩, ⟨Nat.le_trans hS.1 hz, fun q h1 h2 => (hk9 q (Nat.lt_of_lt_of_le h1 hS.1)).trans (hS.2.1 q h1 h2)⟩⟩)
    hS.2.2 (by omega) (by omega)
theorem z_throwW (C : zCX X cc nL own nm ret fr lc) {E text : String} {ik is ic : Nat} {R9 : zResX} (hT : zTS own E text ik is ic)
    (d0 : decode cc pc = .ok (.new ik, 3)) (d3 : decode cc (pc + 3) = .ok (.dup, 1)) (d4 : decode cc (pc + 4) = .ok (.ldc_w is, 3)) (d7 : decode cc (pc + 7) = .ok (.invokespecial ic, 3)) (d10 : decode cc (pc + 10) = .ok (.athrow, 1))
    (hroom : 6 ≤ fr ∧ (st.map fun v => v.category).sum + 82 ≤ lc) (hk : 1 ≤ kc ∧ 6 ≤ ks) (e9 : (.inr E, h) = R9) : zW X nL (zZX X R9) kc ks false hi h pc lv st := by
  subst e9
  intro H locs ls cells slots hR hS ha hL hc hs
  obtain ⟨sa, hsa⟩ := C.2.1.2.2.1 _ hT.2.2.1
  have hf := C.1.f
  have hlc := C.1.c
  exact vx_throwSW C.1.1 C.1.2.1 C.2.2.2 C.1.o hT.2.2.2.2.2.2.1 hT.2.2.2.2.2.2.2 (C.1.W _ hT.1) (C.1.W _ hT.2.1) hsa (hT.at C) hT.2.2.2.2.2.1 C.2.1.1 C.2.1.2.1 hS (by rw [C.1.l]; exact hL.1) d0 d3 d4 d7 d10 (fun x hx => (C.2.2.1 x hx).elim)
    (by show 2 + 3 < _; omega) (by show _ + (13 * (2 + 1) + 43) ≤ _; omega) (by omega) (by omega) C.1.s
    (fun t hvm hz hk9 => ⟨rfl, fun a x hax => ⟨(hR a x hax).1, (hR a x hax).2.kept (hk9 a (hR.lt hax))⟩, ⟨Nat.le_trans hS.1 hz, fun q h1 h2 => (hk9 q (Nat.lt_of_lt_of_le h1 hS.1)).trans (hS.2.1 q h1 h2)⟩⟩)
    hS.2.2 (by omega) (by omega)
theorem z_finX (C : zCX X cc nL own nm ret fr lc) {H : Heap} {locs : List Loc} {ls : Array Slot} {cells slots mc ms : Nat} {r1 R9 : zResX} {a : Array Value} (hS : va_S (fun q => xlo X ≤ q) (xs X).heap H locs)
    (hr : vx_Run (xp X) (xl X) (xe X) (xR X) (xs X) (xm X) (xa X) (xb X) (xM X) (xc X) H locs cells slots mc ms (F0 (xm X) pc ls stk) st (zQX (xD X) (xlo X) r1 a) (zXX (xD X) (xlo X) r1) (fun q => xlo X ≤ q)) (hc : cells + mc ≤ (xR X).cells) (hs : slots + ms ≤ (xR X).slots)
    (ke : ∀ E, r1.1 = .inr E → (.inr E, r1.2) = R9)
    (kk : ∀ (v : Option Value) (H1 : Heap) (locs1 : List Loc), r1.1 = .inl v → zR (xD X) (xlo X) r1.2 H1 → va_S (fun q => xlo X ≤ q) (xs X).heap H1 locs1 → W (xp X) (xl X) (xe X) (xR X) (xs X) (xm X) (xa X) (xb X) (xM X) (xc X) H1 locs1 (cells + mc) (slots + ms) (zZX X R9) (F0 (xm X) (pc + 3) ls (v.toList ++ st))) :
    W (xp X) (xl X) (xe X) (xR X) (xs X) (xm X) (xa X) (xb X) (xM X) (xc X) H locs cells slots (zZX X R9) (F0 (xm X) pc ls stk) := by
  intro T hT X9
  have keep : ∀ (st₀ t T' : State) (L : List Loc), st₀.heap = H → T'.heap = t.heap → (∀ q ∈ L, xlo X ≤ q.base) → va_F (fun q => xlo X ≤ q) st₀ t → va_S (fun q => xlo X ≤ q) (xs X).heap T'.heap (locs ++ L) := by
    intro st₀ t T' L h0 e1 hL hF
    obtain ⟨hz, hk⟩ := hF
    rw [h0] at hz hk
    exact ⟨Nat.le_trans hS.1 (by rw [e1]; exact hz), fun q h1 h2 => by rw [e1, hk q (Nat.lt_of_lt_of_le h1 hS.1) h2]; exact hS.2.1 q h1 h2, fun q hq => by
      rcases List.mem_append.mp hq with h | h
      · exact hS.2.2 q h
      · exact hL q h⟩
  rcases hr T hT X9 with ⟨v, st₀, t, T', L, h0, X', hL, e1, e2, ⟨⟨v', hv, hv2, hRt⟩, hF⟩, st9⟩ | ⟨q, st₀, t, T', L, E, ce, h0, X', hL, e1, e2, ⟨hv, hRt, hF⟩, hce, hcv, hcl, st9⟩
  · cases hv2
    obtain ⟨t2, a1, b1⟩ := kk v T'.heap (locs ++ L) hv (by rw [e1]; exact hRt) (keep st₀ t T' L h0 e1 hL hF) T' rfl X'
    exact ⟨t2, st9 t2 a1, b1⟩
  · have hS' := keep st₀ t T' L h0 e1 hL hF
    have hRt' : zR (xD X) (xlo X) r1.2 T'.heap := by rw [e1]; exact hRt
    have e9 := ke E hv
    subst e9
    obtain ⟨t2, a1, b1⟩ := vx_out (p := xp X) (l := xl X) (e := xe X) (R := xR X) (s := xs X) (m := xm X) (args := xa X) (below := xb X) (meth := xM X) (c := xc X) (H := T'.heap) (locs := locs ++ L) (cells := cells + mc) (slots := slots + ms) (free := fun q => xlo X ≤ q) (ls := ls) (rest := st) (pc := pc) (Qc := zQX (xD X) (xlo X) (.inr E, r1.2)) (XC := zXX (xD X) (xlo X) (.inr E, r1.2)) (mc := (xR X).cells) (ms := (xR X).slots) (q := q) (E := E) (ce := ce) (fun x hx => (C.2.2.1 x hx).elim) C.1.s (by rw [e1]; exact hce) hcv hcl (fun t8 ht8 _ => ⟨rfl, by rw [ht8]; exact hRt', hS'.F ht8⟩) hS'.2.2 hc hs T' rfl X'
    exact ⟨t2, st9.trans a1, b1⟩
variable {y : MethodName} {cb : ByteArray} {maxL n index b ci : Nat} {rty : Option FieldType} {rm : Room} {as : List Value} {C' : String} {T' : u_T} {N' : Nat} {α β : Type} {cvA : α → Option Value} {cvB : β → Option Value} {x : Option (Except String α × zH)} {G : α → zH → Option (Except String β × zH)} {r9 : Except String β × zH}
theorem z_splitX {P : Prop} (hf : zbx x G = some r9) (k1 : ∀ E h1, x = some (.error E, h1) → r9 = (.error E, h1) → P) (k2 : ∀ v h1, x = some (.ok v, h1) → G v h1 = some r9 → P) : P := by
  unfold zbx at hf
  split at hf
  · cases hf
  · cases hf; exact k1 _ _ rfl rfl
  · exact k2 _ _ rfl hf
theorem z_callVX (C : zCX X cc nL own nm ret fr lc) (hf : zbx x G = some r9) (hM : ∀ x9 h9, x = some (x9, h9) → zMX (xl X) y (.code y cb maxL rty :: TW) rm (xD X) (xT X) (xlo X) (.ref b :: as) hi h (zx cvA x9, h9)) (hO : ∀ x9, x = some x9 → ∃ fs, h b = some (.inr (ci, fs))) (hcl : vwCl[ci]? = some (C', T', N')) (hG : GoodIn TW (wsV own index C' y (.code y cb maxL rty :: TW))) (hyd : y.cls = C' ∧ y.cls ≠ "java/lang/invoke/MethodHandle" ∧ y.cls ≠ "java/lang/invoke/VarHandle" ∧ (parseMethodDescriptor y.desc).map (fun d => d.parameters.length) = some n) (hd : decode cc pc = .ok (.invokevirtual index, 3)) (hn : as.length = n) (hroom : rm.frames + 1 ≤ fr ∧ 8 + (maxL + 11) + rm.locals ≤ lc) (hk : rm.cells + kc' = kc ∧ rm.slots + ks' = ks) (hw : (st.map fun v => v.category).sum ≤ 8) (hstk : stk = as.reverse ++ .ref b :: st)
    (kk : ∀ v h', G v h' = some r9 → zW X nL (zZX X (zx cvB r9.1, r9.2)) kc' ks' false hi h' (pc + 3) lv ((cvA v).toList ++ st)) : zW X nL (zZX X (zx cvB r9.1, r9.2)) kc ks false hi h pc lv stk := by
  intro H locs ls cells slots hR hS ha hL hc hs
  have hf9 := C.1.f
  have hlc := C.1.c
  have run : ∀ x9 h9, x = some (x9, h9) → vx_Run (xp X) (xl X) (xe X) (xR X) (xs X) (xm X) (xa X) (xb X) (xM X) (xc X) H locs cells slots rm.cells rm.slots (F0 (xm X) pc ls stk) st (zQX (xD X) (xlo X) (zx cvA x9, h9) (Value.ref b :: as).toArray) (zXX (xD X) (xlo X) (zx cvA x9, h9)) (fun q => xlo X ≤ q) := fun x9 h9 e => by
    obtain ⟨fs, ho⟩ := hO _ e
    exact vx_runV (cells := cells) (slots := slots) (locs := locs) (As := as) (rest := st) (g := F0 (xm X) pc ls stk) ⟨C.1.1, C.1.2.1, C.1.l, C.1.o, C.1.W⟩ (hM x9 h9 e) (cwV n C.1.W hG rfl rfl rfl hyd ⟨by omega, by omega⟩) ⟨zPX.calls, va_recv C.1.K (hR.one ho) hcl (q0 := 0) rfl, z_preX C hR hS (.ref b :: as)⟩ rfl hn hL.1 hstk (by show 2 * 0 + _ ≤ 8; omega) hd ⟨by omega, by omega⟩
  refine z_splitX hf (fun E h1 e er => ?_) (fun v h1 e hg => ?_)
  · subst er
    exact z_finX C hS (run _ _ e) (by omega) (by omega) (fun E9 e9 => by cases e9; rfl) (fun v H1 locs1 e9 => by cases e9)
  · refine z_finX C hS (run _ _ e) (by omega) (by omega) (fun E9 e9 => by cases e9) (fun v9 H1 locs1 e9 hR1 hS1 => ?_)
    cases e9
    exact kk v h1 hg H1 locs1 ls _ _ hR1 hS1 (fun t => nomatch t) hL (by omega) (by omega)
theorem z_callSX (C : zCX X cc nL own nm ret fr lc) (hf : zbx x G = some r9) (hM : ∀ x9 h9, x = some (x9, h9) → zMX (xl X) y (.code y cb maxL rty :: TW) rm (xD X) (xT X) (xlo X) as hi h (zx cvA x9, h9)) (hG : GoodIn TW (va_wsS own index y (.code y cb maxL rty :: TW))) (hyd : y.cls ≠ "java/lang/invoke/MethodHandle" ∧ y.cls ≠ "java/lang/invoke/VarHandle" ∧ (parseMethodDescriptor y.desc).map (fun d => d.parameters.length) = some n) (hd : decode cc pc = .ok (.invokestatic index, 3)) (hn : as.length = n) (hroom : rm.frames + 1 ≤ fr ∧ 8 + (maxL + 11) + rm.locals ≤ lc) (hk : rm.cells + kc' = kc ∧ rm.slots + ks' = ks) (hw : (st.map fun v => v.category).sum ≤ 8) (hstk : stk = as.reverse ++ st)
    (kk : ∀ v h', G v h' = some r9 → zW X nL (zZX X (zx cvB r9.1, r9.2)) kc' ks' false hi h' (pc + 3) lv ((cvA v).toList ++ st)) : zW X nL (zZX X (zx cvB r9.1, r9.2)) kc ks false hi h pc lv stk := by
  intro H locs ls cells slots hR hS ha hL hc hs
  have hf9 := C.1.f
  have hlc := C.1.c
  have run : ∀ x9 h9, x = some (x9, h9) → vx_Run (xp X) (xl X) (xe X) (xR X) (xs X) (xm X) (xa X) (xb X) (xM X) (xc X) H locs cells slots rm.cells rm.slots (F0 (xm X) pc ls stk) st (zQX (xD X) (xlo X) (zx cvA x9, h9) as.toArray) (zXX (xD X) (xlo X) (zx cvA x9, h9)) (fun q => xlo X ≤ q) := fun x9 h9 e =>
    vx_runS (cells := cells) (slots := slots) (locs := locs) (As := as) (rest := st) (g := F0 (xm X) pc ls stk) ⟨C.1.1, C.1.2.1, C.1.l, C.1.o, C.1.W⟩ (hM x9 h9 e) (va_cwS n C.1.W hG rfl rfl rfl hyd ⟨by omega, by omega⟩) ⟨zPX.calls, z_preX C hR hS as⟩ rfl hn hL.1 hstk (by show 2 * 0 + _ ≤ 8; omega) hd ⟨by omega, by omega⟩
  refine z_splitX hf (fun E h1 e er => ?_) (fun v h1 e hg => ?_)
  · subst er
    exact z_finX C hS (run _ _ e) (by omega) (by omega) (fun E9 e9 => by cases e9; rfl) (fun v H1 locs1 e9 => by cases e9)
  · refine z_finX C hS (run _ _ e) (by omega) (by omega) (fun E9 e9 => by cases e9) (fun v9 H1 locs1 e9 hR1 hS1 => ?_)
    cases e9
    exact kk v h1 hg H1 locs1 ls _ _ hR1 hS1 (fun t => nomatch t) hL (by omega) (by omega)
end ZThrow
