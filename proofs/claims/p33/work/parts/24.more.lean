/-! copying of arrays, new arrays, references that may be null -/
def zf (h : zH) (a : Nat) : va_E := (h a).getD (.inr (0, []))
theorem zR.world {D : va_G} {lo : Nat} {h : zH} {H : Heap} (hR : zR D lo h H) : ∃ L : List Nat, (∀ a x, h a = some x → a ∈ L) ∧ (∀ a, a ∈ L → h a ≠ none) ∧ va_P D vwCl (va_pl L (zf h)) H ∧ va_D (fun q => lo ≤ q) (va_pl L (zf h)) := by
  have hin : ∀ a, a ∈ (List.range H.size).filter (fun a => (h a).isSome) → ∃ x, h a = some x := by
    intro a ha
    have h1 := (List.mem_filter.mp ha).2
    exact Option.isSome_iff_exists.mp h1
  have hk : ∀ (k : Nat) (q : Nat × va_E), (va_pl ((List.range H.size).filter (fun a => (h a).isSome)) (zf h))[k]? = some q → ((List.range H.size).filter (fun a => (h a).isSome))[k]? = some q.1 ∧ h q.1 = some q.2 := by
    intro k q hq
    unfold va_pl at hq
    rw [List.getElem?_map] at hq
    cases hz : ((List.range H.size).filter (fun a => (h a).isSome))[k]? with
    | none => rw [hz] at hq; cases hq
    | some a =>
      rw [hz] at hq
      cases hq
      obtain ⟨x, hx⟩ := hin a (List.mem_of_getElem? hz)
      refine ⟨rfl, ?_⟩
      show h a = some (zf h a)
      unfold zf
      rw [hx]
      rfl
  refine ⟨(List.range H.size).filter (fun a => (h a).isSome), fun a x hx => List.mem_filter.mpr ⟨List.mem_range.mpr (hR.lt hx), by rw [hx]; rfl⟩, fun a ha => ?_, fun k q hq => (hR _ _ (hk k q hq).2).2, fun i j p q hi hj e => ?_, fun k q hq => (hR _ _ (hk k q hq).2).1⟩
  · obtain ⟨x, hx⟩ := hin a ha
    rw [hx]
    exact fun e => nomatch e
  · have h1 := (hk i p hi).1
    have h2 := (hk j q hj).1
    rw [← e] at h2
    have hnd : ((List.range H.size).filter (fun a => (h a).isSome)).Nodup := List.nodup_range.filter _
    obtain ⟨h3, h4⟩ := List.getElem?_eq_some_iff.mp h1
    obtain ⟨h5, h6⟩ := List.getElem?_eq_some_iff.mp h2
    have hpw := List.pairwise_iff_getElem.mp hnd
    rcases Nat.lt_trichotomy i j with hlt | heq | hlt
    · exact absurd (h4.trans h6.symm) (hpw i j h3 h5 hlt)
    · exact heq
    · exact absurd (h6.trans h4.symm) (hpw j i h5 h3 hlt)
theorem zR.back {D : va_G} {lo a : Nat} {h : zH} {H1 : Heap} {L : List Nat} {e : va_E} (hL : ∀ a x, h a = some x → a ∈ L) (hP : va_P D vwCl (va_pl L (va_up (zf h) a e)) H1) (hD : va_D (fun q => lo ≤ q) (va_pl L (va_up (zf h) a e))) (ha : a ∈ L) : zR D lo (va_up h a (some e)) H1 := by
  intro b x hb
  have hbL : b ∈ L := by
    unfold va_up at hb
    by_cases hba : b = a
    · rw [hba]; exact ha
    · rw [if_neg hba] at hb; exact hL b x hb
  obtain ⟨k, hk⟩ := va_pl_get (X := []) (f := va_up (zf h) a e) hbL
  have hk : (va_pl L (va_up (zf h) a e))[k]? = some (b, va_up (zf h) a e b) := hk
  have hx : va_up (zf h) a e b = x := by
    unfold va_up at hb ⊢
    by_cases hba : b = a
    · rw [if_pos hba] at hb ⊢; cases hb; rfl
    · rw [if_neg hba] at hb ⊢; unfold zf; rw [hb]; rfl
  rw [hx] at hk
  exact ⟨hD.2 k _ hk, hP k _ hk⟩
def zna (c : ClassId) (h : zH) (hi : Nat) (n : Int32) : Option zH := if n < 0 ∨ 100000 < n.toNatClampNeg then none else some (va_up h hi (some (.inl (c, n.toNatClampNeg, .inl (fun _ => 0)))))
def znl (c : ClassId) (h : zH) (hi : Nat) (n : Int32) : Option zH := if n < 0 ∨ 100000 < n.toNatClampNeg then none else some (va_up h hi (some (.inl (c, n.toNatClampNeg, .inr (.inl (fun _ => 0))))))
def znq (c : ClassId) (h : zH) (hi : Nat) (n : Int32) : Option zH := if n < 0 ∨ 100000 < n.toNatClampNeg then none else some (va_up h hi (some (.inl (c, n.toNatClampNeg, .inr (.inr (.inr (.inr (fun _ => none))))))))
def znw (h : zH) (hi ci : Nat) (fs : List Value) : Option zH := some (va_up h hi (some (.inr (ci, fs))))
section ZMore
variable {X : zX} {cc : ByteArray} {nL : Nat} {own nm : String} {ret : Option FieldType} {fr lc : Nat} {Z : State → Prop} {kc ks kc' ks' : Nat} {al : Bool} {hi ci index : Nat} {h : zH} {pc : Nat} {lv : List (Nat × Value)} {st : List Value} {ρ : Type} {r : ρ}
theorem z_copy (C : zC X cc nL own nm ret fr lc) {a0 a : Nat} {sp dp n9 : Int32} {G : zH → Option ρ} (hl9 : .methodLink own index arraycopyName ∈ TW) (hnat : .native arraycopyName ∈ TW) (hst9 : .static arraycopyName ∈ TW) (hini : .initialized "java/lang/System" ∈ TW) (hd : decode cc pc = .ok (.invokestatic index, 3)) (hroom : 1 ≤ fr ∧ (st.map fun v => v.category).sum + (nativeFrameWords "java/lang/System" "arraycopy" 5 + 11) ≤ lc) (hf9 : (zcp (xT X) h a0 sp a dp n9).bind G = some r) (kk : ∀ h', G h' = some r → zW X nL Z kc ks false hi h' (pc + 3) lv st) : zW X nL Z kc ks false hi h pc lv (.int n9 :: .int dp :: .ref a :: .int sp :: .ref a0 :: st) := by
  obtain ⟨h9, h1, h2⟩ := zbind hf9
  have kk := kk h9 h2
  unfold zcp at h1
  split at h1
  · rename_i c0 n0 f c1 n1 g he0 he1
    by_cases hcn : c0 = (xT X).1 ∧ c1 = (xT X).1 ∧ ¬ sp < 0 ∧ ¬ dp < 0 ∧ ¬ n9 < 0 ∧ sp.toNatClampNeg + n9.toNatClampNeg ≤ n0 ∧ dp.toNatClampNeg + n9.toNatClampNeg ≤ n1
    · rw [if_pos hcn] at h1
      cases h1
      obtain ⟨rfl, rfl, g1, g2, g3, g4, g5⟩ := hcn
      intro H locs ls cells slots hR hS ha hL hc hs
      have hf := C.f
      have hlc := C.c
      obtain ⟨L, hLi, hLs, hP, hD⟩ := hR.world
      obtain ⟨q0, hq0⟩ := va_pl_get (X := []) (f := zf h) (hLi _ _ he0)
      obtain ⟨q1, hq1⟩ := va_pl_get (X := []) (f := zf h) (hLi _ _ he1)
      have hq0 : (va_pl L (zf h))[q0]? = some (a0, .inl ((xT X).1, n0, .inl f)) := by
        have e : zf h a0 = .inl ((xT X).1, n0, .inl f) := by unfold zf; rw [he0]; rfl
        rw [← e]; exact hq0
      have e1 : zf h a = .inl ((xT X).1, n1, .inl g) := by unfold zf; rw [he1]; rfl
      have hq1' : (va_pl L (zf h))[q1]? = some (a, zf h a) := hq1
      have hq1 : (va_pl L (zf h))[q1]? = some (a, .inl ((xT X).1, n1, .inl g)) := by rw [← e1]; exact hq1'
      refine va_copyi C.1 C.2.1 (by rw [C.l]; exact hL.1.symm) C.o (C.W _ hl9) (C.W _ hnat) (C.W _ hst9) (C.W _ hini) C.K hP hD hS q0 q1 0 0 (ty := .int) hq0 hq1 rfl rfl rfl g1 g2 g3 g4 g5 (fun i _ => rfl) (by omega) (by omega) hd fun H1 locs1 hP1 hD1 hS1 => ?_
      have es : ∀ e : va_E, (va_pl L (zf h)).set q1 (a, e) = va_pl L (va_up (zf h) a e) := fun e => va_pl_set (X := []) hD (hLi _ _ he1) hq1'
      rw [es] at hP1 hD1
      exact kk H1 locs1 ls cells slots (zR.back hLi hP1 hD1 (hLi _ _ he1)) hS1 (fun t => nomatch t) hL hc hs
    · rw [if_neg hcn] at h1; cases h1
  · cases h1
theorem z_newarray_int (C : zC X cc nL own nm ret fr lc) {n : Int32} {G : zH → Option ρ} (hw : .arrayClass .int ∈ TW) (hal : al = true) (hd : decode cc pc = .ok (.newarray .int, 2)) (hk : 1 + kc' = kc ∧ n.toNatClampNeg + ks' = ks) (hf : (zna (xT X).1 h hi n).bind G = some r) (kk : ∀ h', G h' = some r → zW X nL Z kc' ks' al (hi + 1) h' (pc + 2) lv (.ref hi :: st)) : zW X nL Z kc ks al hi h pc lv (.int n :: st) := by
  obtain ⟨h9, h1, h2⟩ := zbind hf
  have kk := kk h9 h2
  unfold zna at h1
  by_cases hn : n < 0 ∨ 100000 < n.toNatClampNeg
  · rw [if_pos hn] at h1; cases h1
  rw [if_neg hn] at h1
  cases h1
  obtain ⟨hn1, hn2⟩ := not_or.mp hn
  intro H locs ls cells slots hR hS ha hL hc hs
  have hsz := ha hal
  have hb9 : n.toNatClampNeg * componentBytes (newarray.typeOf .int) ≤ 536870912 := by
    have h8 : componentBytes (newarray.typeOf .int) ≤ 8 := by decide
    exact Nat.le_trans (Nat.mul_le_mul (Nat.le_of_not_lt hn2) h8) (by decide)
  refine va_newaK (atype := .int) C.1 C.2.1 (C.W _ hw) rfl hd rfl hn1 rfl hb9 (by omega) (by omega) hsz fun H1 cA e1 z1 o1 hAr hNm => ?_
  have hcA : (xT X).1 = cA := Option.some.inj ((C.K.2 0 _ rfl).2.symm.trans hNm)
  refine kk H1 locs ls (cells + 1) (slots + n.toNatClampNeg) (hR.push hsz (by rw [← hsz]; exact Nat.le_trans C.z hS.1) ?_ o1) ⟨Nat.le_trans hS.1 (by omega), fun x h1 h2 => (o1 x (by rw [← hsz]; exact Nat.lt_of_lt_of_le h1 hS.1)).trans (hS.2.1 x h1 h2), hS.2.2⟩ (fun _ => z1) hL (by omega) (by omega)
  show H1[hi]? = some (vp_cell _ _)
  rw [hcA, vp_cell_i]
  exact e1
theorem z_anewarray (C : zC X cc nL own nm ret fr lc) {n : Int32} {G : zH → Option ρ} (hw : .classLink own index "CrossedSheet$Sheet" ∈ TW) (hal : al = true) (hd : decode cc pc = .ok (.anewarray index, 3)) (hk : 1 + kc' = kc ∧ n.toNatClampNeg + ks' = ks) (hf : (znq (xT X).2.2.2 h hi n).bind G = some r) (kk : ∀ h', G h' = some r → zW X nL Z kc' ks' al (hi + 1) h' (pc + 3) lv (.ref hi :: st)) : zW X nL Z kc ks al hi h pc lv (.int n :: st) := by
  obtain ⟨h9, h1, h2⟩ := zbind hf
  have kk := kk h9 h2
  unfold znq at h1
  by_cases hn : n < 0 ∨ 100000 < n.toNatClampNeg
  · rw [if_pos hn] at h1; cases h1
  rw [if_neg hn] at h1
  cases h1
  obtain ⟨hn1, hn2⟩ := not_or.mp hn
  intro H locs ls cells slots hR hS ha hL hc hs
  have hsz := ha hal
  refine W.anew C.1 C.2.1 C.o (C.W _ hw) (va_AO.use C.N.2) rfl hd rfl hn1 (by omega) (by omega) (by omega) fun cA kA comp f1 f2 f3 f4 => ?_
  have hcA : (xT X).2.2.2 = cA := by
    obtain ⟨kA', comp', -, -, -, h9⟩ := (C.K.2 3 _ rfl).2
    exact Option.some.inj (h9.symm.trans f1)
  generalize hH1 : H.push ({ cls := cA, slots := Array.replicate n.toNatClampNeg .null, vm := .none } : Cell) = H1
  have z1 : H1.size = H.size + 1 := by rw [← hH1, Array.size_push]
  have e1 : H1[H.size]? = some (arrV cA n.toNatClampNeg (fun _ => .null)) := by rw [← hH1, Array.getElem?_push_size, ← arrV_new]
  have o1 : ∀ q : Nat, q < H.size → H1[q]? = H[q]? := fun q hq => by rw [← hH1, Array.getElem?_push, if_neg (Nat.ne_of_lt hq)]
  rw [hsz] at z1 e1 o1 ⊢
  refine kk H1 locs ls (cells + 1) (slots + n.toNatClampNeg) (hR.push hsz (by rw [← hsz]; exact Nat.le_trans C.z hS.1) ?_ o1) ⟨Nat.le_trans hS.1 (by omega), fun x h1 h2 => (o1 x (by rw [← hsz]; exact Nat.lt_of_lt_of_le h1 hS.1)).trans (hS.2.1 x h1 h2), hS.2.2⟩ (fun _ => z1) hL (by omega) (by omega)
  show H1[hi]? = some (vp_cell _ _)
  rw [hcA, vp_cell_q]
  exact e1
theorem z_newf (C : zC X cc nL own nm ret fr lc) {n9 : Nat} {fs : List Value} {G : zH → Option ρ} (hN : zni own index ci n9 fs) (hal : al = true) (hd : decode cc pc = .ok (.new index, 3)) (hk : 1 + kc' = kc ∧ n9 + ks' = ks) (hf : (znw h hi ci fs).bind G = some r) (kk : ∀ h', G h' = some r → zW X nL Z kc' ks' al (hi + 1) h' (pc + 3) lv (.ref hi :: st)) : zW X nL Z kc ks al hi h pc lv st := by
  obtain ⟨h9, h1, h2⟩ := zbind hf
  unfold znw at h1
  cases h1
  exact z_new C hN hal hd hk (kk _ h2)
theorem z_areturn (C : zC X cc nL own nm (some (.object "CrossedSheet$Sheet")) fr lc) {v : Option Nat} {R9 : zRes} (hd : decode cc pc = .ok (.areturn, 1)) (e9 : (some (va_rf v), hi, h) = R9) : zW X nL (zZ X al R9) kc ks al hi h pc lv [va_rf v] := fun H locs ls cells slots hR hS ha hL hc hs =>
  W.widen (k := (xR X).cells) (n := (xR X).slots) (by omega) (by omega) (W.aret C.1 C.2.1 C.rt (Or.inl ⟨_, rfl⟩) (by cases v with | none => exact Or.inl rfl | some a => exact Or.inr ⟨a, rfl⟩) (z_end e9 hR hS ha) hS.2.2 hd C.s)
theorem z_aconst_null (C : zC X cc nL own nm ret fr lc) (hd : decode cc pc = .ok (.aconst_null, 1)) (kk : zW X nL Z kc ks al hi h (pc + 1) lv (.null :: st)) : zW X nL Z kc ks al hi h pc lv st := fun H locs ls cells slots hR hS ha hL hc hs => lv_null C.1 C.2.1 hd (kk H locs ls cells slots hR hS ha hL hc hs)
theorem z_astore_nN (C : zC X cc nL own nm ret fr lc) {k : Fin 4} {i : Nat} {lv' : List (Nat × Value)} (hd : decode cc pc = .ok (.astore_n k, 1)) (hi2 : (k : Nat) = i) (hn : i < nL) (hl : (i, Value.null) :: lv.filter (fun q => !(q.1 == i) && !(q.1 + 1 == i && q.2.category == 2)) = lv') (kk : zW X nL Z kc ks al hi h (pc + 1) lv' st) : zW X nL Z kc ks al hi h pc lv (.null :: st) := fun H locs ls cells slots hR hS ha hL hc hs => lv_astore_nN C.1 C.2.1 hd hi2 hL hn hl (fun ls hL => kk H locs ls cells slots hR hS ha hL hc hs)
theorem z_aload_nN (C : zC X cc nL own nm ret fr lc) {k : Fin 4} {i : Nat} (hd : decode cc pc = .ok (.aload_n k, 1)) (j : Nat) (hi2 : (k : Nat) = i) (hj : lv[j]? = some (i, .null)) (kk : zW X nL Z kc ks al hi h (pc + 1) lv (.null :: st)) : zW X nL Z kc ks al hi h pc lv st := fun H locs ls cells slots hR hS ha hL hc hs => lv_aload_nN C.1 C.2.1 hd hi2 (lv_at hL j hj) (kk H locs ls cells slots hR hS ha hL hc hs)
theorem z_ifnullN (C : zC X cc nL own nm ret fr lc) {off : Int} {tgt : Nat} (hd : decode cc pc = .ok (.ifnull off, 3)) (ht : (pc : Int) + off = (tgt : Int)) (kk : zW X nL Z kc ks al hi h tgt lv st) : zW X nL Z kc ks al hi h pc lv (.null :: st) := fun H locs ls cells slots hR hS ha hL hc hs => lv_ifnullN C.1 C.2.1 hd ht (kk H locs ls cells slots hR hS ha hL hc hs)
end ZMore
