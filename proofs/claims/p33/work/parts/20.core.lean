/-! A walk over one logical heap: a partial map from addresses to cells, held by the machine's heap. A method is described by a function (none: it would leave the map, or run out of its counter); the rows thread the function's value. -/
abbrev zH : Type := Nat → Option va_E
abbrev zT : Type := ClassId × ClassId × ClassId × ClassId
abbrev zX : Type := Program × Launch × Env × Room × State × MethodId × Array Value × List Frame × Method × Code × va_G × zT × Nat
abbrev xp (X : zX) : Program := X.1
abbrev xl (X : zX) : Launch := X.2.1
abbrev xe (X : zX) : Env := X.2.2.1
abbrev xR (X : zX) : Room := X.2.2.2.1
abbrev xs (X : zX) : State := X.2.2.2.2.1
abbrev xm (X : zX) : MethodId := X.2.2.2.2.2.1
abbrev xa (X : zX) : Array Value := X.2.2.2.2.2.2.1
abbrev xb (X : zX) : List Frame := X.2.2.2.2.2.2.2.1
abbrev xM (X : zX) : Method := X.2.2.2.2.2.2.2.2.1
abbrev xc (X : zX) : Code := X.2.2.2.2.2.2.2.2.2.1
abbrev xD (X : zX) : va_G := X.2.2.2.2.2.2.2.2.2.2.1
abbrev xT (X : zX) : zT := X.2.2.2.2.2.2.2.2.2.2.2.1
abbrev xlo (X : zX) : Nat := X.2.2.2.2.2.2.2.2.2.2.2.2
def TW : List Cond := lw_tbl.filter goodWord
theorem TWm {w : Cond} (i : Nat) (h : lw_tbl[i]? = some w) (g : goodWord w = true) : w ∈ TW := List.mem_filter.mpr ⟨List.mem_of_getElem? h, g⟩
theorem TWg {w : Cond} (h : w ∈ TW) : (w.onTables && w.keeps) = true ∨ ∃ ty, w = .arrayClass ty := good_of_word (List.mem_filter.mp h).2
theorem zGI {y : MethodName} {cb : ByteArray} {maxL : Nat} {ret : Option FieldType} (h : .code y cb maxL ret ∈ TW) : GoodIn TW (.code y cb maxL ret :: TW) := by
  intro w hw
  rcases List.mem_cons.mp hw with rfl | hw
  · exact ⟨h, TWg h⟩
  · exact ⟨hw, TWg hw⟩
theorem zGV {own C : String} {idx : Nat} {y : MethodName} {cb : ByteArray} {maxL : Nat} {ret : Option FieldType} (h1 : .methodLink own idx y ∈ TW) (h2 : .instanceMethod y ∈ TW) (h3 : .selects C y y ∈ TW) (h4 : .initialized C ∈ TW) (h5 : .code y cb maxL ret ∈ TW) : GoodIn TW (wsV own idx C y (.code y cb maxL ret :: TW)) := by
  intro w hw
  unfold wsV at hw
  rcases List.mem_append.mp hw with h | h
  · rcases List.mem_cons.mp h with rfl | h
    · exact ⟨h1, TWg h1⟩
    rcases List.mem_cons.mp h with rfl | h
    · exact ⟨h2, TWg h2⟩
    rcases List.mem_cons.mp h with rfl | h
    · exact ⟨h3, TWg h3⟩
    rcases List.mem_cons.mp h with rfl | h
    · exact ⟨h4, TWg h4⟩
    exact absurd h List.not_mem_nil
  · exact zGI h5 w h
theorem zGS {own : String} {idx : Nat} {y : MethodName} {cb : ByteArray} {maxL : Nat} {ret : Option FieldType} (h1 : .methodLink own idx y ∈ TW) (h2 : .static y ∈ TW) (h4 : .initialized y.cls ∈ TW) (h5 : .code y cb maxL ret ∈ TW) : GoodIn TW (va_wsS own idx y (.code y cb maxL ret :: TW)) := by
  intro w hw
  unfold va_wsS at hw
  rcases List.mem_append.mp hw with h | h
  · rcases List.mem_cons.mp h with rfl | h
    · exact ⟨h1, TWg h1⟩
    rcases List.mem_cons.mp h with rfl | h
    · exact ⟨h2, TWg h2⟩
    rcases List.mem_cons.mp h with rfl | h
    · exact ⟨h4, TWg h4⟩
    exact absurd h List.not_mem_nil
  · exact zGI h5 w h
def zty (T : zT) : List (ClassId × FieldType) := [(T.1, .int), (T.1, .int), (T.1, .int), (T.2.2.2, .object "CrossedSheet$Sheet")]
def NWl : List (String × Nat × MethodName × String) := [("CrossedSheet", 24, ⟨"CrossedSheet$TextReader", "<init>", "()V"⟩, "CrossedSheet"), ("CrossedSheet", 44, ⟨"CrossedSheet$History", "<init>", "()V"⟩, "CrossedSheet"), ("CrossedSheet", 58, ⟨"CrossedSheet$Reading", "<init>", "()V"⟩, "CrossedSheet"), ("CrossedSheet$Sheet", 79, ⟨"CrossedSheet", "cellOf", "(II)I"⟩, "CrossedSheet"), ("CrossedSheet$Sheet", 97, ⟨"CrossedSheet", "placeOf", "(III)I"⟩, "CrossedSheet"), ("CrossedSheet$Reading", 67, ⟨"CrossedSheet", "placeOf", "(III)I"⟩, "CrossedSheet"), ("CrossedSheet$Reading", 74, ⟨"CrossedSheet", "cellOf", "(II)I"⟩, "CrossedSheet"), ("CrossedSheet$TextReader", 39, ⟨"CrossedSheet", "isLetter", "(I)Z"⟩, "CrossedSheet"), ("CrossedSheet$Sheet", 109, ⟨"CrossedSheet", "isLetter", "(I)Z"⟩, "CrossedSheet"), ("CrossedSheet$Sheet", 115, ⟨"CrossedSheet", "letterOrNone", "(I)I"⟩, "CrossedSheet")]
def zN (U : State) : Prop := (∀ q ∈ NWl, va_Nw (.methodLinkNest q.1 q.2.1 q.2.2.1 q.2.2.2) U) ∧ va_AO "CrossedSheet$Sheet" U
theorem zN.same {u U : State} (h : u.vm = U.vm) (hZ : zN u) : zN U := ⟨fun q hq => va_Nw.same rfl h (hZ.1 q hq), va_AO.moved (by rw [h]; exact Vm.Alike.refl U.vm) hZ.2⟩
theorem zN.warm {u U : State} (hW : u.WarmedH U.vm) (hZ : zN u) : zN U := ⟨fun q hq => va_Nw.warmM hW (hZ.1 q hq), va_AO.moved hW.alike hZ.2⟩
/-- the machine's heap holds the map -/
def zR (D : va_G) (lo : Nat) (h : zH) (H : Heap) : Prop := ∀ (a : Nat) (x : va_E), h a = some x → lo ≤ a ∧ va_at D vwCl (a, x) H
theorem zR.one {D : va_G} {lo a : Nat} {h : zH} {H : Heap} {x : va_E} (hR : zR D lo h H) (ha : h a = some x) : va_P D vwCl [(a, x)] H := by
  intro k q hk
  have hz : k < 1 := (List.getElem?_eq_some_iff.mp hk).1
  rw [show k = 0 by omega] at hk
  cases hk
  exact (hR a x ha).2
theorem zR.lt {D : va_G} {lo a : Nat} {h : zH} {H : Heap} {x : va_E} (hR : zR D lo h H) (ha : h a = some x) : a < H.size := (hR a x ha).2.lt
theorem zR.set {D : va_G} {lo a : Nat} {h : zH} {H H1 : Heap} {x0 x : va_E} (hR : zR D lo h H) (ha : h a = some x0) (hx : va_at D vwCl (a, x) H1) (o : ∀ q : Nat, q ≠ a → H1[q]? = H[q]?) : zR D lo (va_up h a (some x)) H1 := by
  intro b y hb
  unfold va_up at hb
  by_cases e : b = a
  · subst e
    rw [if_pos rfl] at hb
    cases hb
    exact ⟨(hR _ _ ha).1, hx⟩
  · rw [if_neg e] at hb
    exact ⟨(hR _ _ hb).1, (hR _ _ hb).2.kept (o b e)⟩
theorem zR.push {D : va_G} {lo hi : Nat} {h : zH} {H H1 : Heap} {x : va_E} (hR : zR D lo h H) (hs : H.size = hi) (hl : lo ≤ hi) (hx : va_at D vwCl (hi, x) H1) (o : ∀ q : Nat, q < hi → H1[q]? = H[q]?) : zR D lo (va_up h hi (some x)) H1 := by
  intro b y hb
  unfold va_up at hb
  by_cases e : b = hi
  · subst e
    rw [if_pos rfl] at hb
    cases hb
    exact ⟨hl, hx⟩
  · rw [if_neg e] at hb
    exact ⟨(hR _ _ hb).1, (hR _ _ hb).2.kept (o b (by rw [← hs]; exact hR.lt hb))⟩
def zC (X : zX) (cc : ByteArray) (nL : Nat) (own nm : String) (ret : Option FieldType) (fr lc : Nat) : Prop :=
  (xp X).tables.exec = Jvm.exec ∧ (xc X).code = cc ∧ (xc X).maxLocals = nL ∧ (xs X).vm.findClass own = some (xm X).cls ∧ (∀ w ∈ TW, w.before (xa X) (xs X) = true) ∧ va_K (xD X) vwCl (zty (xT X)) (xs X) ∧ xlo X ≤ (xs X).heap.size ∧ (xM X).locks = false ∧ (xM X).sig.returnType = ret ∧ (xM X).name = nm ∧ fr ≤ (xR X).frames ∧ lc ≤ (xR X).locals ∧ zN (xs X)
def zW (X : zX) (nL : Nat) (Z : State → Prop) (kc ks : Nat) (al : Bool) (hi : Nat) (h : zH) (pc : Nat) (lv : List (Nat × Value)) (st : List Value) : Prop :=
  ∀ (H : Heap) (locs : List Loc) (ls : Array Slot) (cells slots : Nat), zR (xD X) (xlo X) h H → va_S (fun q => xlo X ≤ q) (xs X).heap H locs → (al = true → H.size = hi) → lv_has ls nL lv → cells + kc ≤ (xR X).cells → slots + ks ≤ (xR X).slots → W (xp X) (xl X) (xe X) (xR X) (xs X) (xm X) (xa X) (xb X) (xM X) (xc X) H locs cells slots Z (F0 (xm X) pc ls st)
/-- what a method owes: it returned r.1, and the heap holds r.2.2 -/
abbrev zRes : Type := Option Value × Nat × zH
def zQ (al : Bool) (D : va_G) (lo : Nat) (r : zRes) : Array Value → State → Outcome → State → Prop := fun _ st o t => (o = .returned r.1 ∧ zR D lo r.2.2 t.heap ∧ (al = true → t.heap.size = r.2.1)) ∧ va_F (fun q => lo ≤ q) st t
def zP (al : Bool) (D : va_G) (T : zT) (lo hi : Nat) (h : zH) : State → Prop := fun U => lo ≤ U.heap.size ∧ zR D lo h U.heap ∧ va_K D vwCl (zty T) U ∧ (al = true → U.heap.size = hi) ∧ zN U
def zM (l : Launch) (y : MethodName) (ws : List Cond) (rm : Room) (D : va_G) (T : zT) (lo : Nat) (al : Bool) (av : List Value) (hi : Nat) (h : zH) (r : zRes) : Prop :=
  Met l y ws rm (va_Pc av (zP al D T lo hi h)) (zQ al D lo r) rm.cells rm.slots (fun q => lo ≤ q)
def zZ (X : zX) (al : Bool) (r : zRes) : State → Prop := MQ (xb X) (zQ al (xD X) (xlo X) r) (xa X) (xs X) (xR X).cells (xR X).slots (fun q => xlo X ≤ q)
theorem zbind {α ρ : Type} {x : Option α} {G : α → Option ρ} {r : ρ} (h : x.bind G = some r) : ∃ v, x = some v ∧ G v = some r := by
  cases x with
  | none => cases h
  | some v => exact ⟨v, rfl, h⟩
theorem zP.calls {al : Bool} {D : va_G} {T : zT} {lo hi : Nat} {h : zH} {av : List Value} : FrameBlind (va_Pc av (zP al D T lo hi h)) := fun a U g mk q => ⟨q.1, q.2.1, q.2.2.1, va_K.moved (u := U) (U := U.calling g mk a) (Vm.Alike.refl U.vm) q.2.2.2.1, q.2.2.2.2.1, zN.same (u := U) (U := U.calling g mk a) rfl q.2.2.2.2.2⟩
/-- the entry of a method's body -/
theorem z_enter {l : Launch} {y : MethodName} {cc : ByteArray} {maxL : Nat} {ret : Option FieldType} {own nm : String} {rm : Room} {D : va_G} {T : zT} {lo : Nat} {al : Bool} {av : List Value} {hi : Nat} {h : zH} {r : zRes} {lv : List (Nat × Value)} (hy : plainName y.cls = true) (ho : y.cls = own) (hn : y.name = nm) (hl : (lg_sl av).length ≤ maxL) (hlv : lv_args 0 av = lv)
    (body : ∀ (p : Program) (e : Env) (s : State) (m : MethodId) (ar : Array Value) (below : List Frame) (meth : Method) (c : Code), zC (p, l, e, rm, s, m, ar, below, meth, c, D, T, lo) cc maxL own nm ret rm.frames rm.locals →
      zW (p, l, e, rm, s, m, ar, below, meth, c, D, T, lo) maxL (zZ (p, l, e, rm, s, m, ar, below, meth, c, D, T, lo) al r) rm.cells rm.slots al hi h 0 lv []) : zM l y (.code y cc maxL ret :: TW) rm D T lo al av hi h r := by
  unfold zM
  refine Met.ofW (cc := cc) (maxL := maxL) (ret := ret) hy rfl ?_
  intro p e s m args below meth c s₁ B hml hv
  obtain ⟨rfl, hlo, hR, hK, hal, hN⟩ := hv
  have hts := atoms_spec (ws := .code y cc maxL ret :: TW) B.pre
  have hown : s.vm.findClass own = some m.cls := ho ▸ findClass_of_methodNamed B.named
  have hnm : meth.name = nm := hn ▸ (name_of_methodNamed B.named B.method).1
  have C : zC (p, l, e, rm, s, m, av.toArray, below, meth, c, D, T, lo) cc maxL own nm ret rm.frames rm.locals := ⟨B.exec, B.bytes, hml, hown, fun w hw => hts w (List.mem_cons_of_mem _ hw), hK, hlo, B.notSynchronized, B.returns, hnm, Nat.le_refl _, Nat.le_refl _, hN⟩
  have hL := lv_entry av (n := maxL) hl
  rw [lg_entry_eq]
  rw [hlv] at hL
  exact body p e s m av.toArray below meth c C s.heap [] _ 0 0 hR va_S.rf hal hL (Nat.le_of_eq (Nat.zero_add _)) (Nat.le_of_eq (Nat.zero_add _))
section ZRows
variable {X : zX} {cc : ByteArray} {nL : Nat} {own nm : String} {ret : Option FieldType} {fr lc : Nat} {Z : State → Prop} {kc ks : Nat} {al : Bool} {hi : Nat} {h : zH} {pc : Nat} {lv : List (Nat × Value)} {st : List Value} {ρ : Type} {r : ρ}
theorem z_sub {lv' : List (Nat × Value)} (js : List Nat) (hl : lv_pick lv js = lv') (kk : zW X nL Z kc ks al hi h pc lv' st) : zW X nL Z kc ks al hi h pc lv st := fun H locs ls cells slots hR hS ha hL hc hs => kk H locs ls cells slots hR hS ha (lv_sub hL js hl) hc hs
theorem z_less {kc' ks' : Nat} (h1 : kc' ≤ kc) (h2 : ks' ≤ ks) (kk : zW X nL Z kc' ks' al hi h pc lv st) : zW X nL Z kc ks al hi h pc lv st := fun H locs ls cells slots hR hS ha hL hc hs => kk H locs ls cells slots hR hS ha hL (by omega) (by omega)
theorem z_iconst (C : zC X cc nL own nm ret fr lc) {n : Int} {v : Int32} (hd : decode cc pc = .ok (.iconst n, 1)) (hv : Int32.ofInt n = v) (kk : zW X nL Z kc ks al hi h (pc + 1) lv (.int v :: st)) : zW X nL Z kc ks al hi h (pc) lv (st) := fun H locs ls cells slots hR hS ha hL hc hs => lv_iconst C.1 C.2.1 hd hv (kk H locs ls cells slots hR hS ha hL hc hs)
theorem z_bipush (C : zC X cc nL own nm ret fr lc) {n : Int} {v : Int32} (hd : decode cc pc = .ok (.bipush n, 2)) (hv : (Int8.ofInt n).toInt32 = v) (kk : zW X nL Z kc ks al hi h (pc + 2) lv (.int v :: st)) : zW X nL Z kc ks al hi h (pc) lv (st) := fun H locs ls cells slots hR hS ha hL hc hs => lv_bipush C.1 C.2.1 hd hv (kk H locs ls cells slots hR hS ha hL hc hs)
theorem z_sipush (C : zC X cc nL own nm ret fr lc) {n : Int} {v : Int32} (hd : decode cc pc = .ok (.sipush n, 3)) (hv : (Int16.ofInt n).toInt32 = v) (kk : zW X nL Z kc ks al hi h (pc + 3) lv (.int v :: st)) : zW X nL Z kc ks al hi h (pc) lv (st) := fun H locs ls cells slots hR hS ha hL hc hs => lv_sipush C.1 C.2.1 hd hv (kk H locs ls cells slots hR hS ha hL hc hs)
theorem z_lconst (C : zC X cc nL own nm ret fr lc) {n : Fin 2} {v : Int64} (hd : decode cc pc = .ok (.lconst n, 1)) (hv : Int64.ofNat (n : Nat) = v) (kk : zW X nL Z kc ks al hi h (pc + 1) lv (.long v :: st)) : zW X nL Z kc ks al hi h (pc) lv (st) := fun H locs ls cells slots hR hS ha hL hc hs => lv_lconst C.1 C.2.1 hd hv (kk H locs ls cells slots hR hS ha hL hc hs)
theorem z_iload_n (C : zC X cc nL own nm ret fr lc) {k : Fin 4} {i : Nat} {x : Int32} (hd : decode cc pc = .ok (.iload_n k, 1)) (j : Nat) (hi2 : (k : Nat) = i) (hj : lv[j]? = some (i, .int x)) (kk : zW X nL Z kc ks al hi h (pc + 1) lv (.int x :: st)) : zW X nL Z kc ks al hi h (pc) lv (st) := fun H locs ls cells slots hR hS ha hL hc hs => lv_iload_n C.1 C.2.1 hd hi2 (lv_at hL j hj) (kk H locs ls cells slots hR hS ha hL hc hs)
theorem z_iload (C : zC X cc nL own nm ret fr lc) {i : Nat} {x : Int32} (hd : decode cc pc = .ok (.iload i, 2)) (j : Nat) (hj : lv[j]? = some (i, .int x)) (kk : zW X nL Z kc ks al hi h (pc + 2) lv (.int x :: st)) : zW X nL Z kc ks al hi h (pc) lv (st) := fun H locs ls cells slots hR hS ha hL hc hs => lv_iload C.1 C.2.1 hd (lv_at hL j hj) (kk H locs ls cells slots hR hS ha hL hc hs)
theorem z_istore_n (C : zC X cc nL own nm ret fr lc) {k : Fin 4} {i : Nat} {x : Int32} {lv' : List (Nat × Value)} (hd : decode cc pc = .ok (.istore_n k, 1)) (hi2 : (k : Nat) = i) (hn : i < nL) (hl : (i, Value.int x) :: lv.filter (fun q => !(q.1 == i) && !(q.1 + 1 == i && q.2.category == 2)) = lv') (kk : zW X nL Z kc ks al hi h (pc + 1) lv' (st)) : zW X nL Z kc ks al hi h (pc) lv (.int x :: st) := fun H locs ls cells slots hR hS ha hL hc hs => lv_istore_n C.1 C.2.1 hd hi2 hL hn hl (fun ls hL => (kk H locs ls cells slots hR hS ha hL hc hs))
theorem z_istore (C : zC X cc nL own nm ret fr lc) {i : Nat} {x : Int32} {lv' : List (Nat × Value)} (hd : decode cc pc = .ok (.istore i, 2)) (hn : i < nL) (hl : (i, Value.int x) :: lv.filter (fun q => !(q.1 == i) && !(q.1 + 1 == i && q.2.category == 2)) = lv') (kk : zW X nL Z kc ks al hi h (pc + 2) lv' (st)) : zW X nL Z kc ks al hi h (pc) lv (.int x :: st) := fun H locs ls cells slots hR hS ha hL hc hs => lv_istore C.1 C.2.1 hd hL hn hl (fun ls hL => (kk H locs ls cells slots hR hS ha hL hc hs))
theorem z_lload_n (C : zC X cc nL own nm ret fr lc) {k : Fin 4} {i : Nat} {x : Int64} (hd : decode cc pc = .ok (.lload_n k, 1)) (j : Nat) (hi2 : (k : Nat) = i) (hj : lv[j]? = some (i, .long x)) (kk : zW X nL Z kc ks al hi h (pc + 1) lv (.long x :: st)) : zW X nL Z kc ks al hi h (pc) lv (st) := fun H locs ls cells slots hR hS ha hL hc hs => lv_lload_n C.1 C.2.1 hd hi2 (lv_at hL j hj) (kk H locs ls cells slots hR hS ha hL hc hs)
theorem z_lload (C : zC X cc nL own nm ret fr lc) {i : Nat} {x : Int64} (hd : decode cc pc = .ok (.lload i, 2)) (j : Nat) (hj : lv[j]? = some (i, .long x)) (kk : zW X nL Z kc ks al hi h (pc + 2) lv (.long x :: st)) : zW X nL Z kc ks al hi h (pc) lv (st) := fun H locs ls cells slots hR hS ha hL hc hs => lv_lload C.1 C.2.1 hd (lv_at hL j hj) (kk H locs ls cells slots hR hS ha hL hc hs)
theorem z_lstore_n (C : zC X cc nL own nm ret fr lc) {k : Fin 4} {i : Nat} {x : Int64} {lv' : List (Nat × Value)} (hd : decode cc pc = .ok (.lstore_n k, 1)) (hi2 : (k : Nat) = i) (hn : i + 1 < nL) (hl : (i, Value.long x) :: lv.filter (fun q => !(q.1 == i) && (!(q.1 == i + 1) && !(q.1 + 1 == i && q.2.category == 2))) = lv') (kk : zW X nL Z kc ks al hi h (pc + 1) lv' (st)) : zW X nL Z kc ks al hi h (pc) lv (.long x :: st) := fun H locs ls cells slots hR hS ha hL hc hs => lv_lstore_n C.1 C.2.1 hd hi2 hL hn hl (fun ls hL => (kk H locs ls cells slots hR hS ha hL hc hs))
theorem z_lstore (C : zC X cc nL own nm ret fr lc) {i : Nat} {x : Int64} {lv' : List (Nat × Value)} (hd : decode cc pc = .ok (.lstore i, 2)) (hn : i + 1 < nL) (hl : (i, Value.long x) :: lv.filter (fun q => !(q.1 == i) && (!(q.1 == i + 1) && !(q.1 + 1 == i && q.2.category == 2))) = lv') (kk : zW X nL Z kc ks al hi h (pc + 2) lv' (st)) : zW X nL Z kc ks al hi h (pc) lv (.long x :: st) := fun H locs ls cells slots hR hS ha hL hc hs => lv_lstore C.1 C.2.1 hd hL hn hl (fun ls hL => (kk H locs ls cells slots hR hS ha hL hc hs))
theorem z_aload_n (C : zC X cc nL own nm ret fr lc) {k : Fin 4} {i : Nat} {x : Nat} (hd : decode cc pc = .ok (.aload_n k, 1)) (j : Nat) (hi2 : (k : Nat) = i) (hj : lv[j]? = some (i, .ref x)) (kk : zW X nL Z kc ks al hi h (pc + 1) lv (.ref x :: st)) : zW X nL Z kc ks al hi h (pc) lv (st) := fun H locs ls cells slots hR hS ha hL hc hs => lv_aload_n C.1 C.2.1 hd hi2 (lv_at hL j hj) (kk H locs ls cells slots hR hS ha hL hc hs)
theorem z_aload (C : zC X cc nL own nm ret fr lc) {i : Nat} {x : Nat} (hd : decode cc pc = .ok (.aload i, 2)) (j : Nat) (hj : lv[j]? = some (i, .ref x)) (kk : zW X nL Z kc ks al hi h (pc + 2) lv (.ref x :: st)) : zW X nL Z kc ks al hi h (pc) lv (st) := fun H locs ls cells slots hR hS ha hL hc hs => lv_aload C.1 C.2.1 hd (lv_at hL j hj) (kk H locs ls cells slots hR hS ha hL hc hs)
theorem z_astore_n (C : zC X cc nL own nm ret fr lc) {k : Fin 4} {i : Nat} {x : Nat} {lv' : List (Nat × Value)} (hd : decode cc pc = .ok (.astore_n k, 1)) (hi2 : (k : Nat) = i) (hn : i < nL) (hl : (i, Value.ref x) :: lv.filter (fun q => !(q.1 == i) && !(q.1 + 1 == i && q.2.category == 2)) = lv') (kk : zW X nL Z kc ks al hi h (pc + 1) lv' (st)) : zW X nL Z kc ks al hi h (pc) lv (.ref x :: st) := fun H locs ls cells slots hR hS ha hL hc hs => lv_astore_n C.1 C.2.1 hd hi2 hL hn hl (fun ls hL => (kk H locs ls cells slots hR hS ha hL hc hs))
theorem z_astore (C : zC X cc nL own nm ret fr lc) {i : Nat} {x : Nat} {lv' : List (Nat × Value)} (hd : decode cc pc = .ok (.astore i, 2)) (hn : i < nL) (hl : (i, Value.ref x) :: lv.filter (fun q => !(q.1 == i) && !(q.1 + 1 == i && q.2.category == 2)) = lv') (kk : zW X nL Z kc ks al hi h (pc + 2) lv' (st)) : zW X nL Z kc ks al hi h (pc) lv (.ref x :: st) := fun H locs ls cells slots hR hS ha hL hc hs => lv_astore C.1 C.2.1 hd hL hn hl (fun ls hL => (kk H locs ls cells slots hR hS ha hL hc hs))
theorem z_iinc (C : zC X cc nL own nm ret fr lc) {i k : Nat} {n : Int} {x d : Int32} {lv' : List (Nat × Value)} (hd : decode cc pc = .ok (.iinc i n, 3)) (hk : lv[k]? = some (i, .int x)) (hv : Int32.ofInt n = d) (hn : i < nL) (hl : (i, Value.int (x + d)) :: lv.filter (fun q => !(q.1 == i) && !(q.1 + 1 == i && q.2.category == 2)) = lv') (kk : zW X nL Z kc ks al hi h (pc + 3) lv' (st)) : zW X nL Z kc ks al hi h (pc) lv (st) := fun H locs ls cells slots hR hS ha hL hc hs => lv_iinc C.1 C.2.1 hd hL hk (by rw [hv]) hn hl (fun ls hL => (kk H locs ls cells slots hR hS ha hL hc hs))
theorem z_iadd (C : zC X cc nL own nm ret fr lc) {x y : Int32} (hd : decode cc pc = .ok (.iadd, 1))  (kk : zW X nL Z kc ks al hi h (pc + 1) lv (.int (x + y) :: st)) : zW X nL Z kc ks al hi h (pc) lv (.int y :: .int x :: st) := fun H locs ls cells slots hR hS ha hL hc hs => lv_iadd C.1 C.2.1 hd (kk H locs ls cells slots hR hS ha hL hc hs)
theorem z_isub (C : zC X cc nL own nm ret fr lc) {x y : Int32} (hd : decode cc pc = .ok (.isub, 1))  (kk : zW X nL Z kc ks al hi h (pc + 1) lv (.int (x - y) :: st)) : zW X nL Z kc ks al hi h (pc) lv (.int y :: .int x :: st) := fun H locs ls cells slots hR hS ha hL hc hs => lv_isub C.1 C.2.1 hd (kk H locs ls cells slots hR hS ha hL hc hs)
theorem z_imul (C : zC X cc nL own nm ret fr lc) {x y : Int32} (hd : decode cc pc = .ok (.imul, 1))  (kk : zW X nL Z kc ks al hi h (pc + 1) lv (.int (x * y) :: st)) : zW X nL Z kc ks al hi h (pc) lv (.int y :: .int x :: st) := fun H locs ls cells slots hR hS ha hL hc hs => lv_imul C.1 C.2.1 hd (kk H locs ls cells slots hR hS ha hL hc hs)
theorem z_iand (C : zC X cc nL own nm ret fr lc) {x y : Int32} (hd : decode cc pc = .ok (.iand, 1))  (kk : zW X nL Z kc ks al hi h (pc + 1) lv (.int (x &&& y) :: st)) : zW X nL Z kc ks al hi h (pc) lv (.int y :: .int x :: st) := fun H locs ls cells slots hR hS ha hL hc hs => lv_iand C.1 C.2.1 hd (kk H locs ls cells slots hR hS ha hL hc hs)
theorem z_ior (C : zC X cc nL own nm ret fr lc) {x y : Int32} (hd : decode cc pc = .ok (.ior, 1))  (kk : zW X nL Z kc ks al hi h (pc + 1) lv (.int (x ||| y) :: st)) : zW X nL Z kc ks al hi h (pc) lv (.int y :: .int x :: st) := fun H locs ls cells slots hR hS ha hL hc hs => lv_ior C.1 C.2.1 hd (kk H locs ls cells slots hR hS ha hL hc hs)
theorem z_ladd (C : zC X cc nL own nm ret fr lc) {x y : Int64} (hd : decode cc pc = .ok (.ladd, 1))  (kk : zW X nL Z kc ks al hi h (pc + 1) lv (.long (x + y) :: st)) : zW X nL Z kc ks al hi h (pc) lv (.long y :: .long x :: st) := fun H locs ls cells slots hR hS ha hL hc hs => lv_ladd C.1 C.2.1 hd (kk H locs ls cells slots hR hS ha hL hc hs)
theorem z_lsub (C : zC X cc nL own nm ret fr lc) {x y : Int64} (hd : decode cc pc = .ok (.lsub, 1))  (kk : zW X nL Z kc ks al hi h (pc + 1) lv (.long (x - y) :: st)) : zW X nL Z kc ks al hi h (pc) lv (.long y :: .long x :: st) := fun H locs ls cells slots hR hS ha hL hc hs => lv_lsub C.1 C.2.1 hd (kk H locs ls cells slots hR hS ha hL hc hs)
theorem z_lmul (C : zC X cc nL own nm ret fr lc) {x y : Int64} (hd : decode cc pc = .ok (.lmul, 1))  (kk : zW X nL Z kc ks al hi h (pc + 1) lv (.long (x * y) :: st)) : zW X nL Z kc ks al hi h (pc) lv (.long y :: .long x :: st) := fun H locs ls cells slots hR hS ha hL hc hs => lv_lmul C.1 C.2.1 hd (kk H locs ls cells slots hR hS ha hL hc hs)
theorem z_land (C : zC X cc nL own nm ret fr lc) {x y : Int64} (hd : decode cc pc = .ok (.land, 1))  (kk : zW X nL Z kc ks al hi h (pc + 1) lv (.long (x &&& y) :: st)) : zW X nL Z kc ks al hi h (pc) lv (.long y :: .long x :: st) := fun H locs ls cells slots hR hS ha hL hc hs => lv_land C.1 C.2.1 hd (kk H locs ls cells slots hR hS ha hL hc hs)
theorem z_lor (C : zC X cc nL own nm ret fr lc) {x y : Int64} (hd : decode cc pc = .ok (.lor, 1))  (kk : zW X nL Z kc ks al hi h (pc + 1) lv (.long (x ||| y) :: st)) : zW X nL Z kc ks al hi h (pc) lv (.long y :: .long x :: st) := fun H locs ls cells slots hR hS ha hL hc hs => lv_lor C.1 C.2.1 hd (kk H locs ls cells slots hR hS ha hL hc hs)
theorem z_ineg (C : zC X cc nL own nm ret fr lc) {x : Int32} (hd : decode cc pc = .ok (.ineg, 1))  (kk : zW X nL Z kc ks al hi h (pc + 1) lv (.int (-x) :: st)) : zW X nL Z kc ks al hi h (pc) lv (.int x :: st) := fun H locs ls cells slots hR hS ha hL hc hs => lv_ineg C.1 C.2.1 hd (kk H locs ls cells slots hR hS ha hL hc hs)
theorem z_i2l (C : zC X cc nL own nm ret fr lc) {x : Int32} (hd : decode cc pc = .ok (.i2l, 1))  (kk : zW X nL Z kc ks al hi h (pc + 1) lv (.long x.toInt64 :: st)) : zW X nL Z kc ks al hi h (pc) lv (.int x :: st) := fun H locs ls cells slots hR hS ha hL hc hs => lv_i2l C.1 C.2.1 hd rfl (kk H locs ls cells slots hR hS ha hL hc hs)
theorem z_l2i (C : zC X cc nL own nm ret fr lc) {x : Int64} (hd : decode cc pc = .ok (.l2i, 1))  (kk : zW X nL Z kc ks al hi h (pc + 1) lv (.int x.toInt32 :: st)) : zW X nL Z kc ks al hi h (pc) lv (.long x :: st) := fun H locs ls cells slots hR hS ha hL hc hs => lv_l2i C.1 C.2.1 hd rfl (kk H locs ls cells slots hR hS ha hL hc hs)
def zdivI (x y : Int32) : Option Int32 := if y = 0 then none else some (x / y)
def zremI (x y : Int32) : Option Int32 := if y = 0 then none else some (x - x / y * y)
def zdivL (x y : Int64) : Option Int64 := if y = 0 then none else some (x / y)
def zremL (x y : Int64) : Option Int64 := if y = 0 then none else some (x - x / y * y)
def zlushr (x : Int64) (y : Int32) : Int64 := (x.toUInt64 >>> (y.toInt64.toUInt64 &&& Int64.toUInt64 63)).toInt64
def zlshl (x : Int64) (y : Int32) : Int64 := x <<< (y.toInt64 &&& 63)
theorem z_lushr (C : zC X cc nL own nm ret fr lc) {x : Int64} {y : Int32} (hd : decode cc pc = .ok (.lushr, 1)) (kk : zW X nL Z kc ks al hi h (pc + 1) lv (.long (zlushr x y) :: st)) : zW X nL Z kc ks al hi h (pc) lv (.int y :: .long x :: st) := fun H locs ls cells slots hR hS ha hL hc hs => lv_lushr C.1 C.2.1 hd rfl (kk H locs ls cells slots hR hS ha hL hc hs)
theorem z_lshl (C : zC X cc nL own nm ret fr lc) {x : Int64} {y : Int32} (hd : decode cc pc = .ok (.lshl, 1)) (kk : zW X nL Z kc ks al hi h (pc + 1) lv (.long (zlshl x y) :: st)) : zW X nL Z kc ks al hi h (pc) lv (.int y :: .long x :: st) := fun H locs ls cells slots hR hS ha hL hc hs => lv_lshl C.1 C.2.1 hd rfl (kk H locs ls cells slots hR hS ha hL hc hs)
theorem z_idiv (C : zC X cc nL own nm ret fr lc) {x y : Int32} {G : Int32 → Option ρ} (hd : decode cc pc = .ok (.idiv, 1)) (hf : (zdivI x y).bind G = some r) (kk : ∀ v, zdivI x y = some v → G v = some r → zW X nL Z kc ks al hi h (pc + 1) lv (.int v :: st)) : zW X nL Z kc ks al hi h (pc) lv (.int y :: .int x :: st) := by
  obtain ⟨v, h1, h2⟩ := zbind hf
  have kk := kk v h1 h2
  unfold zdivI at h1
  by_cases h0 : y = 0
  · rw [if_pos h0] at h1; cases h1
  · rw [if_neg h0] at h1; cases h1
    exact fun H locs ls cells slots hR hS ha hL hc hs => lv_idiv C.1 C.2.1 hd h0 (kk H locs ls cells slots hR hS ha hL hc hs)
theorem z_irem (C : zC X cc nL own nm ret fr lc) {x y : Int32} {G : Int32 → Option ρ} (hd : decode cc pc = .ok (.irem, 1)) (hf : (zremI x y).bind G = some r) (kk : ∀ v, zremI x y = some v → G v = some r → zW X nL Z kc ks al hi h (pc + 1) lv (.int v :: st)) : zW X nL Z kc ks al hi h (pc) lv (.int y :: .int x :: st) := by
  obtain ⟨v, h1, h2⟩ := zbind hf
  have kk := kk v h1 h2
  unfold zremI at h1
  by_cases h0 : y = 0
  · rw [if_pos h0] at h1; cases h1
  · rw [if_neg h0] at h1; cases h1
    exact fun H locs ls cells slots hR hS ha hL hc hs => lv_irem C.1 C.2.1 hd h0 (kk H locs ls cells slots hR hS ha hL hc hs)
theorem z_ldiv (C : zC X cc nL own nm ret fr lc) {x y : Int64} {G : Int64 → Option ρ} (hd : decode cc pc = .ok (.ldiv, 1)) (hf : (zdivL x y).bind G = some r) (kk : ∀ v, zdivL x y = some v → G v = some r → zW X nL Z kc ks al hi h (pc + 1) lv (.long v :: st)) : zW X nL Z kc ks al hi h (pc) lv (.long y :: .long x :: st) := by
  obtain ⟨v, h1, h2⟩ := zbind hf
  have kk := kk v h1 h2
  unfold zdivL at h1
  by_cases h0 : y = 0
  · rw [if_pos h0] at h1; cases h1
  · rw [if_neg h0] at h1; cases h1
    exact fun H locs ls cells slots hR hS ha hL hc hs => lv_ldiv C.1 C.2.1 hd h0 (kk H locs ls cells slots hR hS ha hL hc hs)
theorem z_lrem (C : zC X cc nL own nm ret fr lc) {x y : Int64} {G : Int64 → Option ρ} (hd : decode cc pc = .ok (.lrem, 1)) (hf : (zremL x y).bind G = some r) (kk : ∀ v, zremL x y = some v → G v = some r → zW X nL Z kc ks al hi h (pc + 1) lv (.long v :: st)) : zW X nL Z kc ks al hi h (pc) lv (.long y :: .long x :: st) := by
  obtain ⟨v, h1, h2⟩ := zbind hf
  have kk := kk v h1 h2
  unfold zremL at h1
  by_cases h0 : y = 0
  · rw [if_pos h0] at h1; cases h1
  · rw [if_neg h0] at h1; cases h1
    exact fun H locs ls cells slots hR hS ha hL hc hs => lv_lrem C.1 C.2.1 hd h0 (kk H locs ls cells slots hR hS ha hL hc hs)
theorem z_lcmp (C : zC X cc nL own nm ret fr lc) {x y : Int64} (hd : decode cc pc = .ok (.lcmp, 1)) (kk : zW X nL Z kc ks al hi h (pc + 1) lv (.int (lg_cmp x y) :: st)) : zW X nL Z kc ks al hi h (pc) lv (.long y :: .long x :: st) := fun H locs ls cells slots hR hS ha hL hc hs => W.lcmp C.1 C.2.1 hd (kk H locs ls cells slots hR hS ha hL hc hs)
theorem z_dup (C : zC X cc nL own nm ret fr lc) {v : Value} (hd : decode cc pc = .ok (.dup, 1)) (hv : v.category = 1) (kk : zW X nL Z kc ks al hi h (pc + 1) lv (v :: v :: st)) : zW X nL Z kc ks al hi h (pc) lv (v :: st) := fun H locs ls cells slots hR hS ha hL hc hs => lv_dup C.1 C.2.1 hd hv (kk H locs ls cells slots hR hS ha hL hc hs)
theorem z_pop (C : zC X cc nL own nm ret fr lc) {v : Value} (hd : decode cc pc = .ok (.pop, 1)) (hv : v.category = 1) (kk : zW X nL Z kc ks al hi h (pc + 1) lv (st)) : zW X nL Z kc ks al hi h (pc) lv (v :: st) := fun H locs ls cells slots hR hS ha hL hc hs => lv_pop C.1 C.2.1 hd hv (kk H locs ls cells slots hR hS ha hL hc hs)
theorem z_dup2 (C : zC X cc nL own nm ret fr lc) {v w : Value} (hd : decode cc pc = .ok (.dup2, 1)) (hv : v.category = 1) (hw : w.category = 1) (kk : zW X nL Z kc ks al hi h (pc + 1) lv (v :: w :: v :: w :: st)) : zW X nL Z kc ks al hi h (pc) lv (v :: w :: st) := fun H locs ls cells slots hR hS ha hL hc hs => lv_dup2_11 C.1 C.2.1 hd hv hw (kk H locs ls cells slots hR hS ha hL hc hs)
theorem z_goto (C : zC X cc nL own nm ret fr lc) {off : Int} {tgt : Nat} (hd : decode cc pc = .ok (.goto off, 3)) (ht : (pc : Int) + off = (tgt : Int)) (kk : zW X nL Z kc ks al hi h (tgt) lv (st)) : zW X nL Z kc ks al hi h (pc) lv (st) := fun H locs ls cells slots hR hS ha hL hc hs => lv_goto C.1 C.2.1 hd ht (kk H locs ls cells slots hR hS ha hL hc hs)
theorem z_if_eq (C : zC X cc nL own nm ret fr lc) {x : Int32} {off : Int} {tgt : Nat} {A B : Option ρ} (hd : decode cc pc = .ok (.ifCond .eq off, 3)) (ht : (pc : Int) + off = (tgt : Int)) (hf : (if x = 0 then A else B) = some r) (kt : A = some r → zW X nL Z kc ks al hi h (tgt) lv (st)) (kf : B = some r → zW X nL Z kc ks al hi h (pc + 3) lv (st)) : zW X nL Z kc ks al hi h (pc) lv (.int x :: st) := fun H locs ls cells slots hR hS ha hL hc hs => lv_if_eq C.1 C.2.1 hd ht (fun c => (kt (by rw [if_pos c] at hf; exact hf) H locs ls cells slots hR hS ha hL hc hs)) (fun c => (kf (by rw [if_neg c] at hf; exact hf) H locs ls cells slots hR hS ha hL hc hs))
theorem z_icmp_eq (C : zC X cc nL own nm ret fr lc) {x y : Int32} {off : Int} {tgt : Nat} {A B : Option ρ} (hd : decode cc pc = .ok (.if_icmp .eq off, 3)) (ht : (pc : Int) + off = (tgt : Int)) (hf : (if x = y then A else B) = some r) (kt : A = some r → zW X nL Z kc ks al hi h (tgt) lv (st)) (kf : B = some r → zW X nL Z kc ks al hi h (pc + 3) lv (st)) : zW X nL Z kc ks al hi h (pc) lv (.int y :: .int x :: st) := fun H locs ls cells slots hR hS ha hL hc hs => lv_icmp_eq C.1 C.2.1 hd ht (fun c => (kt (by rw [if_pos c] at hf; exact hf) H locs ls cells slots hR hS ha hL hc hs)) (fun c => (kf (by rw [if_neg c] at hf; exact hf) H locs ls cells slots hR hS ha hL hc hs))
theorem z_if_ne (C : zC X cc nL own nm ret fr lc) {x : Int32} {off : Int} {tgt : Nat} {A B : Option ρ} (hd : decode cc pc = .ok (.ifCond .ne off, 3)) (ht : (pc : Int) + off = (tgt : Int)) (hf : (if x = 0 then B else A) = some r) (kt : A = some r → zW X nL Z kc ks al hi h (tgt) lv (st)) (kf : B = some r → zW X nL Z kc ks al hi h (pc + 3) lv (st)) : zW X nL Z kc ks al hi h (pc) lv (.int x :: st) := fun H locs ls cells slots hR hS ha hL hc hs => lv_if_ne C.1 C.2.1 hd ht (fun c => (kt (by rw [if_neg c] at hf; exact hf) H locs ls cells slots hR hS ha hL hc hs)) (fun c => (kf (by rw [if_pos c] at hf; exact hf) H locs ls cells slots hR hS ha hL hc hs))
theorem z_icmp_ne (C : zC X cc nL own nm ret fr lc) {x y : Int32} {off : Int} {tgt : Nat} {A B : Option ρ} (hd : decode cc pc = .ok (.if_icmp .ne off, 3)) (ht : (pc : Int) + off = (tgt : Int)) (hf : (if x = y then B else A) = some r) (kt : A = some r → zW X nL Z kc ks al hi h (tgt) lv (st)) (kf : B = some r → zW X nL Z kc ks al hi h (pc + 3) lv (st)) : zW X nL Z kc ks al hi h (pc) lv (.int y :: .int x :: st) := fun H locs ls cells slots hR hS ha hL hc hs => lv_icmp_ne C.1 C.2.1 hd ht (fun c => (kt (by rw [if_neg c] at hf; exact hf) H locs ls cells slots hR hS ha hL hc hs)) (fun c => (kf (by rw [if_pos c] at hf; exact hf) H locs ls cells slots hR hS ha hL hc hs))
theorem z_if_lt (C : zC X cc nL own nm ret fr lc) {x : Int32} {off : Int} {tgt : Nat} {A B : Option ρ} (hd : decode cc pc = .ok (.ifCond .lt off, 3)) (ht : (pc : Int) + off = (tgt : Int)) (hf : (if x < 0 then A else B) = some r) (kt : A = some r → zW X nL Z kc ks al hi h (tgt) lv (st)) (kf : B = some r → zW X nL Z kc ks al hi h (pc + 3) lv (st)) : zW X nL Z kc ks al hi h (pc) lv (.int x :: st) := fun H locs ls cells slots hR hS ha hL hc hs => lv_if_lt C.1 C.2.1 hd ht (fun c => (kt (by rw [if_pos c] at hf; exact hf) H locs ls cells slots hR hS ha hL hc hs)) (fun c => (kf (by rw [if_neg c] at hf; exact hf) H locs ls cells slots hR hS ha hL hc hs))
theorem z_icmp_lt (C : zC X cc nL own nm ret fr lc) {x y : Int32} {off : Int} {tgt : Nat} {A B : Option ρ} (hd : decode cc pc = .ok (.if_icmp .lt off, 3)) (ht : (pc : Int) + off = (tgt : Int)) (hf : (if x < y then A else B) = some r) (kt : A = some r → zW X nL Z kc ks al hi h (tgt) lv (st)) (kf : B = some r → zW X nL Z kc ks al hi h (pc + 3) lv (st)) : zW X nL Z kc ks al hi h (pc) lv (.int y :: .int x :: st) := fun H locs ls cells slots hR hS ha hL hc hs => lv_icmp_lt C.1 C.2.1 hd ht (fun c => (kt (by rw [if_pos c] at hf; exact hf) H locs ls cells slots hR hS ha hL hc hs)) (fun c => (kf (by rw [if_neg c] at hf; exact hf) H locs ls cells slots hR hS ha hL hc hs))
theorem z_if_ge (C : zC X cc nL own nm ret fr lc) {x : Int32} {off : Int} {tgt : Nat} {A B : Option ρ} (hd : decode cc pc = .ok (.ifCond .ge off, 3)) (ht : (pc : Int) + off = (tgt : Int)) (hf : (if 0 ≤ x then A else B) = some r) (kt : A = some r → zW X nL Z kc ks al hi h (tgt) lv (st)) (kf : B = some r → zW X nL Z kc ks al hi h (pc + 3) lv (st)) : zW X nL Z kc ks al hi h (pc) lv (.int x :: st) := fun H locs ls cells slots hR hS ha hL hc hs => lv_if_ge C.1 C.2.1 hd ht (fun c => (kt (by rw [if_pos c] at hf; exact hf) H locs ls cells slots hR hS ha hL hc hs)) (fun c => (kf (by rw [if_neg c] at hf; exact hf) H locs ls cells slots hR hS ha hL hc hs))
theorem z_icmp_ge (C : zC X cc nL own nm ret fr lc) {x y : Int32} {off : Int} {tgt : Nat} {A B : Option ρ} (hd : decode cc pc = .ok (.if_icmp .ge off, 3)) (ht : (pc : Int) + off = (tgt : Int)) (hf : (if y ≤ x then A else B) = some r) (kt : A = some r → zW X nL Z kc ks al hi h (tgt) lv (st)) (kf : B = some r → zW X nL Z kc ks al hi h (pc + 3) lv (st)) : zW X nL Z kc ks al hi h (pc) lv (.int y :: .int x :: st) := fun H locs ls cells slots hR hS ha hL hc hs => lv_icmp_ge C.1 C.2.1 hd ht (fun c => (kt (by rw [if_pos c] at hf; exact hf) H locs ls cells slots hR hS ha hL hc hs)) (fun c => (kf (by rw [if_neg c] at hf; exact hf) H locs ls cells slots hR hS ha hL hc hs))
theorem z_if_gt (C : zC X cc nL own nm ret fr lc) {x : Int32} {off : Int} {tgt : Nat} {A B : Option ρ} (hd : decode cc pc = .ok (.ifCond .gt off, 3)) (ht : (pc : Int) + off = (tgt : Int)) (hf : (if 0 < x then A else B) = some r) (kt : A = some r → zW X nL Z kc ks al hi h (tgt) lv (st)) (kf : B = some r → zW X nL Z kc ks al hi h (pc + 3) lv (st)) : zW X nL Z kc ks al hi h (pc) lv (.int x :: st) := fun H locs ls cells slots hR hS ha hL hc hs => lv_if_gt C.1 C.2.1 hd ht (fun c => (kt (by rw [if_pos c] at hf; exact hf) H locs ls cells slots hR hS ha hL hc hs)) (fun c => (kf (by rw [if_neg c] at hf; exact hf) H locs ls cells slots hR hS ha hL hc hs))
theorem z_icmp_gt (C : zC X cc nL own nm ret fr lc) {x y : Int32} {off : Int} {tgt : Nat} {A B : Option ρ} (hd : decode cc pc = .ok (.if_icmp .gt off, 3)) (ht : (pc : Int) + off = (tgt : Int)) (hf : (if y < x then A else B) = some r) (kt : A = some r → zW X nL Z kc ks al hi h (tgt) lv (st)) (kf : B = some r → zW X nL Z kc ks al hi h (pc + 3) lv (st)) : zW X nL Z kc ks al hi h (pc) lv (.int y :: .int x :: st) := fun H locs ls cells slots hR hS ha hL hc hs => lv_icmp_gt C.1 C.2.1 hd ht (fun c => (kt (by rw [if_pos c] at hf; exact hf) H locs ls cells slots hR hS ha hL hc hs)) (fun c => (kf (by rw [if_neg c] at hf; exact hf) H locs ls cells slots hR hS ha hL hc hs))
theorem z_if_le (C : zC X cc nL own nm ret fr lc) {x : Int32} {off : Int} {tgt : Nat} {A B : Option ρ} (hd : decode cc pc = .ok (.ifCond .le off, 3)) (ht : (pc : Int) + off = (tgt : Int)) (hf : (if x ≤ 0 then A else B) = some r) (kt : A = some r → zW X nL Z kc ks al hi h (tgt) lv (st)) (kf : B = some r → zW X nL Z kc ks al hi h (pc + 3) lv (st)) : zW X nL Z kc ks al hi h (pc) lv (.int x :: st) := fun H locs ls cells slots hR hS ha hL hc hs => lv_if_le C.1 C.2.1 hd ht (fun c => (kt (by rw [if_pos c] at hf; exact hf) H locs ls cells slots hR hS ha hL hc hs)) (fun c => (kf (by rw [if_neg c] at hf; exact hf) H locs ls cells slots hR hS ha hL hc hs))
theorem z_icmp_le (C : zC X cc nL own nm ret fr lc) {x y : Int32} {off : Int} {tgt : Nat} {A B : Option ρ} (hd : decode cc pc = .ok (.if_icmp .le off, 3)) (ht : (pc : Int) + off = (tgt : Int)) (hf : (if x ≤ y then A else B) = some r) (kt : A = some r → zW X nL Z kc ks al hi h (tgt) lv (st)) (kf : B = some r → zW X nL Z kc ks al hi h (pc + 3) lv (st)) : zW X nL Z kc ks al hi h (pc) lv (.int y :: .int x :: st) := fun H locs ls cells slots hR hS ha hL hc hs => lv_icmp_le C.1 C.2.1 hd ht (fun c => (kt (by rw [if_pos c] at hf; exact hf) H locs ls cells slots hR hS ha hL hc hs)) (fun c => (kf (by rw [if_neg c] at hf; exact hf) H locs ls cells slots hR hS ha hL hc hs))
end ZRows
