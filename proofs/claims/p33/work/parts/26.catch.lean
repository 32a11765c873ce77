/-! methods of the law that catch, and the law itself -/
def NCl : List (String × String) := [("java/lang/IllegalArgumentException", "java/lang/IllegalStateException"), ("java/lang/IllegalArgumentException", "java/lang/IndexOutOfBoundsException"), ("java/lang/IllegalStateException", "java/lang/IllegalArgumentException"), ("java/lang/IllegalStateException", "java/lang/IndexOutOfBoundsException"), ("java/lang/IndexOutOfBoundsException", "java/lang/IllegalArgumentException"), ("java/lang/IndexOutOfBoundsException", "java/lang/IllegalStateException")]
def zNC (U : State) : Prop := ∀ q ∈ NCl, va_Nc q.1 q.2 U
def zPW (D : va_G) (T : zT) (lo hi : Nat) (h : zH) : State → Prop := fun U => zPX D T lo hi h U ∧ zNC U
theorem zPW.calls {D : va_G} {T : zT} {lo hi : Nat} {h : zH} {av : List Value} : FrameBlind (va_Pc av (zPW D T lo hi h)) := fun a U g mk q => ⟨q.1, (zPX.calls a U g mk ⟨q.1, q.2.1⟩).2, fun z hz => (q.2.2 z hz).moved (U := U.calling g mk a) (Vm.Alike.refl U.vm)⟩
def zMW (l : Launch) (y : MethodName) (ws : List Cond) (rm : Room) (D : va_G) (T : zT) (lo : Nat) (av : List Value) (hi : Nat) (h : zH) (r : zRes) : Prop :=
  Met l y ws rm (va_Pc av (zPW D T lo hi h)) (zQ false D lo r) rm.cells rm.slots (fun q => lo ≤ q)
def zCW (X : zX) (cc : ByteArray) (nL : Nat) (own nm : String) (ret : Option FieldType) (fr lc : Nat) (hh : List (Nat × Nat × Nat × Nat)) : Prop := zC X cc nL own nm ret fr lc ∧ zE (xlo X) (xs X) ∧ zNC (xs X) ∧ (xc X).exceptionTable.toList = tableOf hh ∧ (xl X).stackTraces = false
theorem z_ofWH {l : Launch} {y : MethodName} {ws ws' : List Cond} {rm : Room} {Pc : Array Value → State → Prop} {Qc : Array Value → State → Outcome → State → Prop} {mc ms : Nat} {free : Addr → Prop} {cc : ByteArray} {maxL : Nat} {ret : Option FieldType} {hh : List (Nat × Nat × Nat × Nat)}
    (hy : plainName y.cls = true) (hw : ws = Cond.codeWith y cc maxL ret hh :: ws')
    (body : ∀ p e s m args below meth c s₁, BodyLoose p l y (headSpec ws rm) cc maxL ret e s m args below meth c s₁ → c.maxLocals = maxL → Pc args s →
      W p l e (headSpec ws rm).room s m args below meth c s.heap [] 0 0 (MQ below Qc args s mc ms free) (entryFrame m args maxL)) : Met l y ws rm Pc Qc mc ms free := by
  refine MetFree.of_bodyS (code := cc) (maxLocals := maxL) (ret := ret) hy ?_ ?_
  · intro args s m h hn
    obtain ⟨m9, meth, c, hn9, h1, h2, h3, h4, -, h5, h6, -⟩ := Cond.codeWith_spec (atoms_spec (ws := ws) h _ (by rw [hw]; exact List.mem_cons_self))
    cases hn.symm.trans hn9
    exact ⟨meth, c, h1, h2, h3, h4, h5, h6⟩
  · intro p e s m args below meth c s₁ B hml hP _
    have hh0 : s₁.heap = s.heap := by rw [B.state]; rfl
    obtain ⟨t, a1, o, b1, b2, b3⟩ := body p e s m args below meth c s₁ B hml hP s₁ hh0 (Stand.of_body B)
    exact ⟨t, o, a1, b1, b2, ⟨b3.1, b3.2⟩⟩
theorem z_enterW {l : Launch} (hl9 : l.stackTraces = false) {y : MethodName} {cc : ByteArray} {maxL : Nat} {ret : Option FieldType} {own nm : String} {rm : Room} {D : va_G} {T : zT} {lo : Nat} {av : List Value} {hi : Nat} {h : zH} {r : zRes} {lv : List (Nat × Value)} {hh : List (Nat × Nat × Nat × Nat)} (hy : plainName y.cls = true) (ho : y.cls = own) (hn : y.name = nm) (hl : (lg_sl av).length ≤ maxL) (hlv : lv_args 0 av = lv)
    (body : ∀ (p : Program) (e : Env) (s : State) (m : MethodId) (ar : Array Value) (below : List Frame) (meth : Method) (c : Code), zCW (p, l, e, rm, s, m, ar, below, meth, c, D, T, lo) cc maxL own nm ret rm.frames rm.locals hh →
      zW (p, l, e, rm, s, m, ar, below, meth, c, D, T, lo) maxL (zZ (p, l, e, rm, s, m, ar, below, meth, c, D, T, lo) false r) rm.cells rm.slots false hi h 0 lv []) : zMW l y (.codeWith y cc maxL ret hh :: TW) rm D T lo av hi h r := by
  unfold zMW
  refine z_ofWH (cc := cc) (maxL := maxL) (ret := ret) (hh := hh) hy rfl ?_
  intro p e s m args below meth c s₁ B hml hv
  obtain ⟨rfl, ⟨⟨hlo, hR, hK, hal, hN⟩, hE⟩, hNC⟩ := hv
  have hts := atoms_spec (ws := .codeWith y cc maxL ret hh :: TW) B.pre
  have htab := vx_table (x := y) B (hts _ List.mem_cons_self)
  have hown : s.vm.findClass own = some m.cls := ho ▸ findClass_of_methodNamed B.named
  have hnm : meth.name = nm := hn ▸ (name_of_methodNamed B.named B.method).1
  have C : zC (p, l, e, rm, s, m, av.toArray, below, meth, c, D, T, lo) cc maxL own nm ret rm.frames rm.locals := ⟨B.exec, B.bytes, hml, hown, fun w hw => hts w (List.mem_cons_of_mem _ hw), hK, hlo, B.notSynchronized, B.returns, hnm, Nat.le_refl _, Nat.le_refl _, hN⟩
  have hL := lv_entry av (n := maxL) hl
  rw [lg_entry_eq]
  rw [hlv] at hL
  exact body p e s m av.toArray below meth c ⟨C, hE, hNC, htab, hl9⟩ s.heap [] _ 0 0 hR va_S.rf hal hL (Nat.le_of_eq (Nat.zero_add _)) (Nat.le_of_eq (Nat.zero_add _))
def zbh {α ρ : Type} (x : Option (Except String α × zH)) (G : α → zH → Option ρ) (K : String → zH → Option ρ) : Option ρ := match x with
  | none => none
  | some (.error E, h) => K E h
  | some (.ok v, h) => G v h
theorem zGSW {own : String} {idx : Nat} {y : MethodName} {cb : ByteArray} {maxL : Nat} {ret : Option FieldType} {hh : List (Nat × Nat × Nat × Nat)} (h1 : .methodLink own idx y ∈ TW) (h2 : .static y ∈ TW) (h4 : .initialized y.cls ∈ TW) (h5 : .codeWith y cb maxL ret hh ∈ TW) : GoodIn TW (va_wsS own idx y (.codeWith y cb maxL ret hh :: TW)) := by
  intro w hw
  unfold va_wsS at hw
  rcases List.mem_append.mp hw with h | h
  · rcases List.mem_cons.mp h with rfl | h
    · exact ⟨h1, TWg h1⟩
    rcases List.mem_cons.mp h with rfl | h
    · exact ⟨h2, TWg h2⟩
    rcases List.mem_cons.mp h with rfl | h
    · exact ⟨h4, TWg h4⟩
    exact absurd h List.not_mem_nil
  · rcases List.mem_cons.mp h with rfl | h
    · exact ⟨h5, TWg h5⟩
    · exact ⟨h, TWg h⟩
section ZCatch
variable {X : zX} {cc : ByteArray} {nL : Nat} {own nm : String} {ret : Option FieldType} {fr lc : Nat} {Z : State → Prop} {kc ks kc' ks' hi : Nat} {h : zH} {pc : Nat} {lv : List (Nat × Value)} {st stk : List Value} {ρ : Type} {r : ρ} {hh : List (Nat × Nat × Nat × Nat)} {al : Bool}
/-- caught here: the handler goes on -/
def zHd (X : zX) (own : String) (nL : Nat) (Z : State → Prop) (kc ks hi : Nat) (h : zH) (pc : Nat) (lv : List (Nat × Value)) (hh : List (Nat × Nat × Nat × Nat)) (E : String) : Prop :=
  ∃ (pre : List ExceptionTableEntry) (x9 : ExceptionTableEntry) (suf : List ExceptionTableEntry) (name : String), tableOf hh = pre ++ x9 :: suf ∧ (∀ z ∈ pre, covers z pc = false ∨ (z.catchType ≠ 0 ∧ ∃ n9 : String, .classLink own z.catchType n9 ∈ TW ∧ (E, n9) ∈ NCl)) ∧ covers x9 pc = true ∧ x9.catchType ≠ 0 ∧ .classLink own x9.catchType name ∈ TW ∧ (E, name) ∈ CAl ∧ ∀ q : Nat, zW X nL Z kc ks false hi h x9.handlerPc lv [.ref q]
theorem z_finH (C : zCW X cc nL own nm ret fr lc hh) {H : Heap} {locs : List Loc} {ls : Array Slot} {cells slots mc ms : Nat} {r1 : zResX} {a : Array Value} (hS : va_S (fun q => xlo X ≤ q) (xs X).heap H locs) (hL : lv_has ls nL lv)
    (hr : vx_Run (xp X) (xl X) (xe X) (xR X) (xs X) (xm X) (xa X) (xb X) (xM X) (xc X) H locs cells slots mc ms (F0 (xm X) pc ls stk) st (zQX (xD X) (xlo X) r1 a) (zXX (xD X) (xlo X) r1) (fun q => xlo X ≤ q)) (hc : cells + (mc + kc') ≤ (xR X).cells) (hs : slots + (ms + ks') ≤ (xR X).slots)
    (ke : ∀ E, r1.1 = .inr E → zHd X own nL Z kc' ks' hi r1.2 pc lv hh E)
    (kk : ∀ (v : Option Value) (H1 : Heap) (locs1 : List Loc), r1.1 = .inl v → zR (xD X) (xlo X) r1.2 H1 → va_S (fun q => xlo X ≤ q) (xs X).heap H1 locs1 → W (xp X) (xl X) (xe X) (xR X) (xs X) (xm X) (xa X) (xb X) (xM X) (xc X) H1 locs1 (cells + mc) (slots + ms) Z (F0 (xm X) (pc + 3) ls (v.toList ++ st))) :
    W (xp X) (xl X) (xe X) (xR X) (xs X) (xm X) (xa X) (xb X) (xM X) (xc X) H locs cells slots Z (F0 (xm X) pc ls stk) := by
  intro T hT X9
  have keep : ∀ (st₀ t T' : State) (L : List Loc), st₀.heap = H → T'.heap = t.heap → (∀ q ∈ L, xlo X ≤ q.base) → va_F (fun q => xlo X ≤ q) st₀ t → va_S (fun q => xlo X ≤ q) (xs X).heap T'.heap (locs ++ L) := by
    intro st₀ t T' L h0 e1 hL hF
    obtain ⟨hz, hk⟩ := hF
    rw [h0] at hz hk
    exact ⟨Nat.le_trans hS.1 (by rw [e1]; exact hz), fun q h1 h2 => by rw [e1, hk q (Nat.lt_of_lt_of_le h1 hS.1) h2]; exact hS.2.1 q h1 h2, fun q hq => by
      rcases List.mem_append.mp hq with h | h
      · exact hS.2.2 q h
      · exact hL q h⟩
  rcases hr T hT X9 with ⟨v, st₀, t, T', L, h0, X', hL1, e1, e2, ⟨⟨v', hv, hv2, hRt⟩, hF⟩, st9⟩ | ⟨q, st₀, t, T', L, E, ce, h0, X', hL1, e1, e2, ⟨hv, hRt, hF⟩, hce, hcv, hcl, st9⟩
  · cases hv2
    obtain ⟨t2, a1, b1⟩ := kk v T'.heap (locs ++ L) hv (by rw [e1]; exact hRt) (keep st₀ t T' L h0 e1 hL1 hF) T' rfl X'
    exact ⟨t2, st9 t2 a1, b1⟩
  · have hS' := keep st₀ t T' L h0 e1 hL1 hF
    have hRt' : zR (xD X) (xlo X) r1.2 T'.heap := by rw [e1]; exact hRt
    obtain ⟨pre, x9, suf, name, g1, g2, g3, g4, g5, g6, g7⟩ := ke E hv
    have hpass : ∀ z ∈ pre, covers z pc = false ∨ (z.catchType ≠ 0 ∧ ∃ n9 : String, (Cond.classLink own z.catchType n9).before (xa X) (xs X) = true ∧ va_Nc E n9 (xs X)) := fun z hz => (g2 z hz).imp id (fun ⟨a9, n9, b9, c9⟩ => ⟨a9, n9, C.1.W _ b9, C.2.2.1 _ c9⟩)
    have hcast : (Cond.castable E name).before (xa X) (xs X) = true := va_Nw.use rfl (C.2.1.2.2.2.1 _ g6)
    have kw := g7 q T'.heap (locs ++ L) ls (cells + mc) (slots + ms) hRt' hS' (fun t => nomatch t) hL (by omega) (by omega)
    obtain ⟨t2, a1, b1⟩ := vx_catch (ls := ls) (rest := st) (pc := pc) C.1.o pre x9 suf (C.2.2.2.1.trans g1) hpass g3 g4 (C.1.W _ g5) hcast (by rw [e1]; exact hce) hcv hcl kw T' rfl X'
    exact ⟨t2, st9.trans a1, b1⟩
variable {y : MethodName} {cb : ByteArray} {maxL n index b ci : Nat} {rty : Option FieldType} {rm : Room} {as : List Value} {C' : String} {T' : u_T} {N' : Nat} {α : Type} {cvA : α → Option Value} {x : Option (Except String α × zH)} {G : α → zH → Option ρ} {K : String → zH → Option ρ}
theorem z_callVH (C : zCW X cc nL own nm ret fr lc hh) (hf : zbh x G K = some r) (hM : ∀ x9 h9, x = some (x9, h9) → zMX (xl X) y (.code y cb maxL rty :: TW) rm (xD X) (xT X) (xlo X) (.ref b :: as) hi h (zx cvA x9, h9)) (hO : ∀ x9, x = some x9 → ∃ fs, h b = some (.inr (ci, fs))) (hcl : vwCl[ci]? = some (C', T', N')) (hG : GoodIn TW (wsV own index C' y (.code y cb maxL rty :: TW))) (hyd : y.cls = C' ∧ y.cls ≠ "java/lang/invoke/MethodHandle" ∧ y.cls ≠ "java/lang/invoke/VarHandle" ∧ (parseMethodDescriptor y.desc).map (fun d => d.parameters.length) = some n) (hd : decode cc pc = .ok (.invokevirtual index, 3)) (hn : as.length = n) (hroom : rm.frames + 1 ≤ fr ∧ 8 + (maxL + 11) + rm.locals ≤ lc) (hk : rm.cells + kc' = kc ∧ rm.slots + ks' = ks) (hw : (st.map fun v => v.category).sum ≤ 8) (hstk : stk = as.reverse ++ .ref b :: st)
    (kk : ∀ v h', G v h' = some r → zW X nL Z kc' ks' false hi h' (pc + 3) lv ((cvA v).toList ++ st)) (kx : ∀ E h', K E h' = some r → zHd X own nL Z kc' ks' hi h' pc lv hh E) : zW X nL Z kc ks false hi h pc lv stk := by
  intro H locs ls cells slots hR hS ha hL hc hs
  have hf9 := C.1.f
  have hlc := C.1.c
  have hXX : zE (xlo X) (xs X) := C.2.1
  have hpre : ∀ U : State, U.heap = H → (xs X).WarmedH U.vm → va_Pc (.ref b :: as) (zPX (xD X) (xT X) (xlo X) hi h) (Value.ref b :: as).toArray U := fun U hU hW => ⟨rfl, (z_pre (al := false) C.1 hR hS (fun t => nomatch t) (.ref b :: as) U hU hW).2, hXX.warm hU hW hS⟩
  have run : ∀ x9 h9, x = some (x9, h9) → vx_Run (xp X) (xl X) (xe X) (xR X) (xs X) (xm X) (xa X) (xb X) (xM X) (xc X) H locs cells slots rm.cells rm.slots (F0 (xm X) pc ls stk) st (zQX (xD X) (xlo X) (zx cvA x9, h9) (Value.ref b :: as).toArray) (zXX (xD X) (xlo X) (zx cvA x9, h9)) (fun q => xlo X ≤ q) := fun x9 h9 e => by
    obtain ⟨fs, ho⟩ := hO _ e
    exact vx_runV (cells := cells) (slots := slots) (locs := locs) (As := as) (rest := st) (g := F0 (xm X) pc ls stk) ⟨C.1.1, C.1.2.1, C.1.l, C.1.o, C.1.W⟩ (hM x9 h9 e) (cwV n C.1.W hG rfl rfl rfl hyd ⟨by omega, by omega⟩) ⟨zPX.calls, va_recv C.1.K (hR.one ho) hcl (q0 := 0) rfl, hpre⟩ rfl hn hL.1 hstk (by show 2 * 0 + _ ≤ 8; omega) hd ⟨by omega, by omega⟩
  unfold zbh at hf
  split at hf
  · cases hf
  · exact z_finH (kc' := kc') (ks' := ks') (hi := hi) C hS hL (run _ _ rfl) (by omega) (by omega) (fun E9 e9 => by cases e9; exact kx _ _ hf) (fun v H1 locs1 e9 => by cases e9)
  · refine z_finH (kc' := kc') (ks' := ks') (hi := hi) C hS hL (run _ _ rfl) (by omega) (by omega) (fun E9 e9 => by cases e9) (fun v9 H1 locs1 e9 hR1 hS1 => ?_)
    cases e9
    exact kk _ _ hf H1 locs1 ls _ _ hR1 hS1 (fun t => nomatch t) hL (by omega) (by omega)
end ZCatch
