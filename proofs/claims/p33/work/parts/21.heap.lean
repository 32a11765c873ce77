/-! reading and writing the logical heap -/
def zo (h : zH) (a ci : Nat) : Option (List Value) := match h a with
  | some (.inr (c, fs)) => if c = ci then some fs else none
  | _ => none
def zvI (v : Option Value) : Option Int32 := match v with
  | some (.int x) => some x
  | _ => none
def zvR (v : Option Value) : Option Nat := match v with
  | some (.ref x) => some x
  | _ => none
def zgi (h : zH) (a ci k : Nat) : Option Int32 := (zo h a ci).bind fun fs => zvI fs[k]?
def zgr (h : zH) (a ci k : Nat) : Option Nat := (zo h a ci).bind fun fs => zvR fs[k]?
def zpv (h : zH) (a ci k : Nat) (v : Value) : Option zH := (zo h a ci).bind fun fs => if k < fs.length then some (va_up h a (some (.inr (ci, fs.set k v)))) else none
abbrev zin (i : Int32) (n : Nat) : Prop := ¬ (i < 0 ∨ n ≤ i.toNatClampNeg)
def zai (T : zT) (h : zH) (a : Nat) (i : Int32) : Option Int32 := match h a with
  | some (.inl (c, n, .inl f)) => if c = T.1 ∧ zin i n then some (f i.toNatClampNeg) else none
  | _ => none
def zas (T : zT) (h : zH) (a : Nat) (i x : Int32) : Option zH := match h a with
  | some (.inl (c, n, .inl f)) => if c = T.1 ∧ zin i n then some (va_up h a (some (.inl (c, n, .inl (upd f i.toNatClampNeg x))))) else none
  | _ => none
def zbi (T : zT) (h : zH) (a : Nat) (i : Int32) : Option Int32 := match h a with
  | some (.inl (c, n, .inl f)) => if c = T.2.2.1 ∧ zin i n then some (f i.toNatClampNeg) else none
  | _ => none
def zbs (T : zT) (h : zH) (a : Nat) (i x : Int32) : Option zH := match h a with
  | some (.inl (c, n, .inl f)) => if c = T.2.2.1 ∧ zin i n then some (va_up h a (some (.inl (c, n, .inl (upd f i.toNatClampNeg (vp_nar .boolean x)))))) else none
  | _ => none
def zli (T : zT) (h : zH) (a : Nat) (i : Int32) : Option Int64 := match h a with
  | some (.inl (c, n, .inr (.inl f))) => if c = T.2.1 ∧ zin i n then some (f i.toNatClampNeg) else none
  | _ => none
def zls (T : zT) (h : zH) (a : Nat) (i : Int32) (x : Int64) : Option zH := match h a with
  | some (.inl (c, n, .inr (.inl f))) => if c = T.2.1 ∧ zin i n then some (va_up h a (some (.inl (c, n, .inr (.inl (vp_updL f i.toNatClampNeg x)))))) else none
  | _ => none
def zqi (T : zT) (h : zH) (a : Nat) (i : Int32) : Option (Option Nat) := match h a with
  | some (.inl (c, n, .inr (.inr (.inr (.inr f))))) => if c = T.2.2.2 ∧ zin i n then some (f i.toNatClampNeg) else none
  | _ => none
def zqs (T : zT) (h : zH) (a : Nat) (i : Int32) (v : Nat) : Option zH := match h a with
  | some (.inl (c, n, .inr (.inr (.inr (.inr f))))) => if c = T.2.2.2 ∧ zin i n ∧ zo h v 3 ≠ none then some (va_up h a (some (.inl (c, n, .inr (.inr (.inr (.inr (va_up f i.toNatClampNeg (some v))))))))) else none
  | _ => none
def zln (T : zT) (h : zH) (a : Nat) : Option Int32 := match h a with
  | some (.inl (c, n, .inl _)) => if c = T.1 then some (Int32.ofNat n) else none
  | some (.inl (c, n, .inr (.inr (.inr (.inr _))))) => if c = T.2.2.2 then some (Int32.ofNat n) else none
  | _ => none
def zcp (T : zT) (h : zH) (a0 : Nat) (sp : Int32) (a : Nat) (dp n : Int32) : Option zH := match h a0, h a with
  | some (.inl (c0, n0, .inl f)), some (.inl (c1, n1, .inl g)) => if c0 = T.1 ∧ c1 = T.1 ∧ ¬ sp < 0 ∧ ¬ dp < 0 ∧ ¬ n < 0 ∧ sp.toNatClampNeg + n.toNatClampNeg ≤ n0 ∧ dp.toNatClampNeg + n.toNatClampNeg ≤ n1 then some (va_up h a (some (.inl (c1, n1, .inl (va_cpy f g sp.toNatClampNeg dp.toNatClampNeg n.toNatClampNeg))))) else none
  | _, _ => none
theorem zo_some {h : zH} {a ci : Nat} {fs : List Value} (e : zo h a ci = some fs) : h a = some (.inr (ci, fs)) := by
  unfold zo at e
  split at e
  · rename_i c fs' he
    by_cases hc : c = ci
    · rw [if_pos hc] at e; cases e; rw [he, hc]
    · rw [if_neg hc] at e; cases e
  · cases e
theorem zo_obj {h : zH} {a ci : Nat} {fs : List Value} (e : zo h a ci = some fs) : ∃ fs, h a = some (.inr (ci, fs)) := ⟨fs, zo_some e⟩
theorem zo_of {h : zH} {a ci : Nat} {fs : List Value} (e : h a = some (.inr (ci, fs))) : zo h a ci = some fs := by
  unfold zo; rw [e]; simp
theorem zgi_some {h : zH} {a ci k : Nat} {x : Int32} (e : zgi h a ci k = some x) : ∃ fs : List Value, h a = some (.inr (ci, fs)) ∧ fs[k]? = some (.int x) := by
  obtain ⟨fs, h1, h2⟩ := zbind e
  refine ⟨fs, zo_some h1, ?_⟩
  unfold zvI at h2
  split at h2
  · rename_i y hy; cases h2; exact hy
  · cases h2
theorem zgr_some {h : zH} {a ci k : Nat} {x : Nat} (e : zgr h a ci k = some x) : ∃ fs : List Value, h a = some (.inr (ci, fs)) ∧ fs[k]? = some (.ref x) := by
  obtain ⟨fs, h1, h2⟩ := zbind e
  refine ⟨fs, zo_some h1, ?_⟩
  unfold zvR at h2
  split at h2
  · rename_i y hy; cases h2; exact hy
  · cases h2
/-- what the tables say of a field's entry of a class's pool: the k-th field of the class ci, of the type ty, final or not -/
def zF (own : String) (index ci k : Nat) (ty : FieldType) (fin : Bool) : Prop := ∃ (Cn : String) (T : u_T) (N : Nat) (ty0 : Nat → FieldType), vwCl[ci]? = some (Cn, T, N) ∧ (∀ w ∈ u_ws Cn T N, w ∈ TW) ∧ k < N ∧ Cond.fieldLink own index (T k).1 (T k).2.1 (T k).2.2.1 ∈ TW ∧ parseFieldDescriptor (T k).2.2.1 = some ty ∧ (∀ k, k < N → parseFieldDescriptor (T k).2.2.1 = some (ty0 k)) ∧ (∀ a, a < N → ∀ b, b < N → a ≠ b → (T a).2.1 ≠ (T b).2.1) ∧ (T k).2.2.2 = fin
section ZHeap
variable {X : zX} {cc : ByteArray} {nL : Nat} {own nm : String} {ret : Option FieldType} {fr lc : Nat} {Z : State → Prop} {kc ks : Nat} {al : Bool} {hi : Nat} {h : zH} {pc : Nat} {lv : List (Nat × Value)} {st : List Value} {ρ : Type} {r : ρ}
theorem zC.K (C : zC X cc nL own nm ret fr lc) : va_K (xD X) vwCl (zty (xT X)) (xs X) := C.2.2.2.2.2.1
theorem zC.W (C : zC X cc nL own nm ret fr lc) : ∀ w ∈ TW, w.before (xa X) (xs X) = true := C.2.2.2.2.1
theorem zC.o (C : zC X cc nL own nm ret fr lc) : (xs X).vm.findClass own = some (xm X).cls := C.2.2.2.1
theorem zC.l (C : zC X cc nL own nm ret fr lc) : (xc X).maxLocals = nL := C.2.2.1
theorem zC.z (C : zC X cc nL own nm ret fr lc) : xlo X ≤ (xs X).heap.size := C.2.2.2.2.2.2.1
theorem zC.s (C : zC X cc nL own nm ret fr lc) : (xM X).locks = false := C.2.2.2.2.2.2.2.1
theorem zC.rt (C : zC X cc nL own nm ret fr lc) : (xM X).sig.returnType = ret := C.2.2.2.2.2.2.2.2.1
theorem zC.n (C : zC X cc nL own nm ret fr lc) : (xM X).name = nm := C.2.2.2.2.2.2.2.2.2.1
theorem zC.f (C : zC X cc nL own nm ret fr lc) : fr ≤ (xR X).frames := C.2.2.2.2.2.2.2.2.2.2.1
theorem zC.c (C : zC X cc nL own nm ret fr lc) : lc ≤ (xR X).locals := C.2.2.2.2.2.2.2.2.2.2.2.1
theorem zC.N (C : zC X cc nL own nm ret fr lc) : zN (xs X) := C.2.2.2.2.2.2.2.2.2.2.2.2
theorem z_getV (C : zC X cc nL own nm ret fr lc) {a ci k index : Nat} {fs : List Value} {v : Value} {ty : FieldType} {fin : Bool} (hF : zF own index ci k ty fin) (ho : h a = some (.inr (ci, fs))) (hv : fs[k]? = some v) (hd : decode cc pc = .ok (.getfield index, 3)) (kk : zW X nL Z kc ks al hi h (pc + 3) lv (v :: st)) : zW X nL Z kc ks al hi h pc lv (.ref a :: st) := by
  obtain ⟨Cn, T, N, ty0, hcl, hin, hk, hw, -, -, -, -⟩ := hF
  intro H locs ls cells slots hR hS ha hL hc hs
  exact va_get (D := xD X) (ci := ci) (v := v) (C := Cn) (T := T) (N := N) C.1 C.2.1 C.W hin C.o C.K (hR.one ho) 0 rfl hcl k hk (C.W _ hw) (fun _ h9 => h9) hv hd (kk H locs ls cells slots hR hS ha hL hc hs)
theorem z_getI (C : zC X cc nL own nm ret fr lc) {a ci k index : Nat} {ty : FieldType} {fin : Bool} {G : Int32 → Option ρ} (hF : zF own index ci k ty fin) (hd : decode cc pc = .ok (.getfield index, 3)) (hf : (zgi h a ci k).bind G = some r) (kk : ∀ x, G x = some r → zW X nL Z kc ks al hi h (pc + 3) lv (.int x :: st)) : zW X nL Z kc ks al hi h pc lv (.ref a :: st) := by
  obtain ⟨x, h1, h2⟩ := zbind hf
  obtain ⟨fs, ho, hv⟩ := zgi_some h1
  exact z_getV C hF ho hv hd (kk x h2)
theorem z_getR (C : zC X cc nL own nm ret fr lc) {a ci k index : Nat} {ty : FieldType} {fin : Bool} {G : Nat → Option ρ} (hF : zF own index ci k ty fin) (hd : decode cc pc = .ok (.getfield index, 3)) (hf : (zgr h a ci k).bind G = some r) (kk : ∀ x, G x = some r → zW X nL Z kc ks al hi h (pc + 3) lv (.ref x :: st)) : zW X nL Z kc ks al hi h pc lv (.ref a :: st) := by
  obtain ⟨x, h1, h2⟩ := zbind hf
  obtain ⟨fs, ho, hv⟩ := zgr_some h1
  exact z_getV C hF ho hv hd (kk x h2)
theorem z_put (C : zC X cc nL own nm ret fr lc) {a ci k index : Nat} {ty : FieldType} {v : Value} {G : zH → Option ρ} (hF : zF own index ci k ty false) (hd : decode cc pc = .ok (.putfield index, 3)) (hn : narrow ty v = v) (hfit : fits ty v = true) (hf : (zpv h a ci k v).bind G = some r) (kk : ∀ h', G h' = some r → zW X nL Z kc ks al hi h' (pc + 3) lv st) : zW X nL Z kc ks al hi h pc lv (v :: .ref a :: st) := by
  obtain ⟨h', h1, h2⟩ := zbind hf
  obtain ⟨fs, h3, h4⟩ := zbind h1
  have kk := kk h' h2
  by_cases hl : k < fs.length
  case neg => rw [if_neg hl] at h4; cases h4
  rw [if_pos hl] at h4
  cases h4
  have ho := zo_some h3
  obtain ⟨Cn, T, N, ty0, hcl, hin, hk, hw, hd2, hty, hnm, hfin⟩ := hF
  intro H locs ls cells slots hR hS ha hL hc hs
  have hap := va_apart (own := own) C.W hin ty0 hty hnm C.K hcl
  obtain ⟨hlo, r0, g1, cell, q1, q2, q3, q4⟩ := hR a _ ho
  have hr : r0 = (Cn, T, N) := Option.some.inj (g1.symm.trans hcl)
  subst hr
  obtain ⟨hSl, hfc, kC, hkC, hkind⟩ := C.K.1 ci _ hcl
  obtain ⟨cf, kf, fi, f, hi2, hsl⟩ := hSl k hk
  have hlay := C.W _ (hin _ (u_in_lay hk))
  unfold u_lay at hlay
  rw [if_neg (by rw [hfin]; decide)] at hlay
  have hst := (u_facts hfc hkC (u_lays C.W hin hk) hi2).1
  have h6 := u_store hfc hkC hkind hlay hi2 hd2 hn hfit
  refine W.putK C.1 C.2.1 (f := f) ⟨C.o, C.W _ hw, ⟨_, _, _, hi2⟩, hst⟩ (by rw [q2]; exact h6) q1 q3 (by rw [hsl]; exact k2_hasslot (q4 k hk)) rfl rfl hd fun H' e1 e2 e3 => ?_
  rw [hsl] at e1 ⊢
  exact kk H' _ ls cells slots (hR.set ho ⟨_, hcl, t_OB.to (V := updV (vp_V fs) k v) ⟨_, e1, q2, q3, t_set q4 hap hk v⟩ (fun j _ => vp_updV_set hl v j)⟩ e3) (hS.put e2 e3 hlo) (fun t => e2.trans (ha t)) hL hc hs
/-- a final field, in its class's constructor -/
theorem z_putF (C : zC X cc nL own nm ret fr lc) {a ci k index : Nat} {ty : FieldType} {v : Value} {G : zH → Option ρ} (hF : zF own index ci k ty true) (hnm2 : nm = "<init>") (hdecl : ∀ Cn T N, vwCl[ci]? = some (Cn, T, N) → (T k).1 = own) (hd : decode cc pc = .ok (.putfield index, 3)) (hn : narrow ty v = v) (hfit : fits ty v = true) (hf : (zpv h a ci k v).bind G = some r) (kk : ∀ h', G h' = some r → zW X nL Z kc ks al hi h' (pc + 3) lv st) : zW X nL Z kc ks al hi h pc lv (v :: .ref a :: st) := by
  obtain ⟨h', h1, h2⟩ := zbind hf
  obtain ⟨fs, h3, h4⟩ := zbind h1
  have kk := kk h' h2
  by_cases hl : k < fs.length
  case neg => rw [if_neg hl] at h4; cases h4
  rw [if_pos hl] at h4
  cases h4
  have ho := zo_some h3
  obtain ⟨Cn, T, N, ty0, hcl, hin, hk, hw, hd2, hty, hnm, hfin⟩ := hF
  intro H locs ls cells slots hR hS ha hL hc hs
  have hap := va_apart (own := own) C.W hin ty0 hty hnm C.K hcl
  obtain ⟨hlo, r0, g1, cell, q1, q2, q3, q4⟩ := hR a _ ho
  have hr : r0 = (Cn, T, N) := Option.some.inj (g1.symm.trans hcl)
  subst hr
  obtain ⟨hSl, hfc, kC, hkC, hkind⟩ := C.K.1 ci _ hcl
  obtain ⟨cf, kf, fi, f, hi2, hsl⟩ := hSl k hk
  have hlay := C.W _ (hin _ (u_in_lay hk))
  unfold u_lay at hlay
  rw [if_pos hfin] at hlay
  have hst := (u_facts hfc hkC (u_lays C.W hin hk) hi2).1
  have hcf : (xm X).cls = cf := by
    obtain ⟨_, _, c', _, _, _, -, -, hf', -, -, -, hown2, -⟩ := Cond.laysFinal_spec hlay
    have e1 : c' = cf := by have := hi2.symm.trans hf'; simp at this; exact this.1.symm
    rw [hdecl _ _ _ hcl] at hown2
    rw [← e1]; exact Option.some.inj (C.o.symm.trans hown2)
  have h6 := u_fits hfc hkC hkind (Or.inr hlay) hi2 hd2 hn hfit
  refine W.putFinK C.1 C.2.1 C.o (C.W _ hw) hi2 hst hcf (C.n.trans hnm2) (by rw [q2]; exact h6) q1 q3 (by rw [hsl]; exact k2_hasslot (q4 k hk)) rfl rfl hd fun H' e1 e2 e3 => ?_
  rw [hsl] at e1 ⊢
  exact kk H' _ ls cells slots (hR.set ho ⟨_, hcl, t_OB.to (V := updV (vp_V fs) k v) ⟨_, e1, q2, q3, t_set q4 hap hk v⟩ (fun j _ => vp_updV_set hl v j)⟩ e3) (hS.put e2 e3 hlo) (fun t => e2.trans (ha t)) hL hc hs
theorem z_iaload (C : zC X cc nL own nm ret fr lc) {a : Nat} {i : Int32} {G : Int32 → Option ρ} (hd : decode cc pc = .ok (.iaload, 1)) (hf : (zai (xT X) h a i).bind G = some r) (kk : ∀ x, G x = some r → zW X nL Z kc ks al hi h (pc + 1) lv (.int x :: st)) : zW X nL Z kc ks al hi h (pc) lv (.int i :: .ref a :: st) := by
  obtain ⟨x, h1, h2⟩ := zbind hf
  have kk := kk x h2
  unfold zai at h1
  split at h1
  · rename_i c n f he
    by_cases hcn : c = (xT X).1 ∧ zin i n
    · rw [if_pos hcn] at h1
      cases h1
      obtain ⟨rfl, hin⟩ := hcn
      exact fun H locs ls cells slots hR hS ha hL hc hs => va_iald C.1 C.2.1 C.K (hR.one he) 0 0 rfl rfl hin hd (kk H locs ls cells slots hR hS ha hL hc hs)
    · rw [if_neg hcn] at h1; cases h1
  · cases h1
theorem z_aaload (C : zC X cc nL own nm ret fr lc) {a : Nat} {i : Int32} {G : (Option Nat) → Option ρ} (hd : decode cc pc = .ok (.aaload, 1)) (hf : (zqi (xT X) h a i).bind G = some r) (kk : ∀ x, G x = some r → zW X nL Z kc ks al hi h (pc + 1) lv (va_rf x :: st)) : zW X nL Z kc ks al hi h (pc) lv (.int i :: .ref a :: st) := by
  obtain ⟨x, h1, h2⟩ := zbind hf
  have kk := kk x h2
  unfold zqi at h1
  split at h1
  · rename_i c n f he
    by_cases hcn : c = (xT X).2.2.2 ∧ zin i n
    · rw [if_pos hcn] at h1
      cases h1
      obtain ⟨rfl, hin⟩ := hcn
      exact fun H locs ls cells slots hR hS ha hL hc hs => va_aldq C.1 C.2.1 C.K (hR.one he) 0 3 rfl rfl hin hd (kk H locs ls cells slots hR hS ha hL hc hs)
    · rw [if_neg hcn] at h1; cases h1
  · cases h1
theorem z_iastore (C : zC X cc nL own nm ret fr lc) {a : Nat} {i : Int32} {x : Int32} {G : zH → Option ρ} (hd : decode cc pc = .ok (.iastore, 1)) (hf : (zas (xT X) h a i x).bind G = some r) (kk : ∀ h', G h' = some r → zW X nL Z kc ks al hi h' (pc + 1) lv (st)) : zW X nL Z kc ks al hi h (pc) lv (.int x :: .int i :: .ref a :: st) := by
  obtain ⟨h', h1, h2⟩ := zbind hf
  have kk := kk h' h2
  unfold zas at h1
  split at h1
  · rename_i c n f he
    by_cases hcn : c = (xT X).1 ∧ zin i n
    · rw [if_pos hcn] at h1
      cases h1
      obtain ⟨rfl, hin⟩ := hcn
      intro H locs ls cells slots hR hS ha hL hc hs
      have hat := hR a _ he
      refine W.iast C.1 C.2.1 hat.2 ((C.K.2 0 _ rfl).1 n (fun j => .int (f j))) (fun q => by cases q) (by show ¬ (i < 0 ∨ (arrV _ _ _).slots.size ≤ _); rw [arrV_size]; exact hin) rfl rfl hd fun H1 e z oq => ?_
      refine kk H1 _ ls cells slots (hR.set he ?_ oq) (hS.put z oq hat.1) (fun t => z.trans (ha t)) hL hc hs
      show H1[a]? = some (vp_cell _ _)
      rw [e]
      rw [vp_cell_i, vp_cell_i, arrV_store]
      congr 2
      funext q
      by_cases hq : q = i.toNatClampNeg
      · subst hq
        simp [updV, upd]
      · simp [updV, upd, hq]
    · rw [if_neg hcn] at h1; cases h1
  · cases h1
theorem z_aastore (C : zC X cc nL own nm ret fr lc) {a v : Nat} {i : Int32} {G : zH → Option ρ} (hd : decode cc pc = .ok (.aastore, 1)) (hf : (zqs (xT X) h a i v).bind G = some r) (kk : ∀ h', G h' = some r → zW X nL Z kc ks al hi h' (pc + 1) lv (st)) : zW X nL Z kc ks al hi h (pc) lv (.ref v :: .int i :: .ref a :: st) := by
  obtain ⟨h', h1, h2⟩ := zbind hf
  have kk := kk h' h2
  unfold zqs at h1
  split at h1
  · rename_i c n f he
    by_cases hcn : c = (xT X).2.2.2 ∧ zin i n ∧ zo h v 3 ≠ none
    · rw [if_pos hcn] at h1
      cases h1
      obtain ⟨rfl, hin, hv3⟩ := hcn
      obtain ⟨vs, hv⟩ : ∃ vs, zo h v 3 = some vs := by
        cases hz : zo h v 3 with
        | none => exact absurd hz hv3
        | some vs => exact ⟨vs, rfl⟩
      have hv := zo_some hv
      intro H locs ls cells slots hR hS ha hL hc hs
      have hat := hR a _ he
      have hlt : i.toNatClampNeg < n := Nat.not_le.mp fun q => hin (Or.inr q)
      have h0 : ¬ i < 0 := fun q => hin (Or.inl q)
      obtain ⟨-, r', hr', cellV, g1, g2, g3, -⟩ := hR v _ hv
      have hcls := (C.K.1 3 _ rfl).2
      obtain ⟨kA, comp, k1, k2, k3, -⟩ := (C.K.2 3 _ rfl).2
      have hcomp : comp = (xD X).1 3 := Option.some.inj (k3.symm.trans hcls.1)
      subst hcomp
      obtain ⟨kC, hkC, -⟩ := hcls.2
      refine W.aast C.1 C.2.1 hat.2 (fun q h => by cases h) (fun h => by cases h) k1 k2 rfl hkC ⟨h0, by show _ < (arrV _ _ _).slots.size; rw [arrV_size]; exact hlt⟩ g1 (fun q h => by rw [g3] at h; cases h) (by rw [g2]; exact hkC) (by rw [g2]; exact va_assign hcls) rfl rfl hd fun H1 e z oq => ?_
      refine kk H1 _ ls cells slots (hR.set he ?_ oq) (hS.put z oq hat.1) (fun t => z.trans (ha t)) hL hc hs
      show H1[a]? = some (vp_cell _ _)
      rw [e]
      rw [vp_cell_q, vp_cell_q, arrV_store]
      congr 2
      funext q
      by_cases hq : q = i.toNatClampNeg
      · subst hq
        simp [updV, va_up, va_rf]
      · simp [updV, va_up, hq]
    · rw [if_neg hcn] at h1; cases h1
  · cases h1
theorem z_alen (C : zC X cc nL own nm ret fr lc) {a : Nat} {G : Int32 → Option ρ} (hd : decode cc pc = .ok (.arraylength, 1)) (hf : (zln (xT X) h a).bind G = some r) (kk : ∀ x, G x = some r → zW X nL Z kc ks al hi h (pc + 1) lv (.int x :: st)) : zW X nL Z kc ks al hi h (pc) lv (.ref a :: st) := by
  obtain ⟨x, h1, h2⟩ := zbind hf
  have kk := kk x h2
  unfold zln at h1
  split at h1
  · rename_i c n f he
    by_cases hcn : c = (xT X).1
    · rw [if_pos hcn] at h1
      cases h1
      subst hcn
      exact fun H locs ls cells slots hR hS ha hL hc hs => va_alen C.1 C.2.1 C.K (hR.one he) 0 0 rfl rfl rfl hd (kk H locs ls cells slots hR hS ha hL hc hs)
    · rw [if_neg hcn] at h1; cases h1
  · rename_i c n f he
    by_cases hcn : c = (xT X).2.2.2
    · rw [if_pos hcn] at h1
      cases h1
      subst hcn
      exact fun H locs ls cells slots hR hS ha hL hc hs => va_alen C.1 C.2.1 C.K (hR.one he) 0 3 rfl rfl rfl hd (kk H locs ls cells slots hR hS ha hL hc hs)
    · rw [if_neg hcn] at h1; cases h1
  · cases h1
end ZHeap
