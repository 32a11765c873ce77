/-! what writes a page of the reference; page and Sheet stay the same sheet -/
/-- not by rfl: the kernel gets lost in long chains that simp took for definitional -/
theorem zsn {α β : Type} (a : α) (f : α → Option β) : (some a).bind f = f a := by rw [zsb]
section Dm
variable {d : Nat → Nat → Int} {p : Nat} {s k w e : Int}
theorem dmark_5 : dmark d p s k w e 5 = upZ (d 5) p s := by
  unfold dmark
  rw [dput_ne (by omega), dput_ne (by omega), dput_ne (by omega), dput_self]
theorem dmark_6 : dmark d p s k w e 6 = upZ (d 6) p k := by
  unfold dmark
  rw [dput_ne (by omega), dput_ne (by omega), dput_self, dput_ne (by omega)]
theorem dmark_7 : dmark d p s k w e 7 = upZ (d 7) p w := by
  unfold dmark
  rw [dput_ne (by omega), dput_self, dput_ne (by omega), dput_ne (by omega)]
theorem dmark_8 : dmark d p s k w e 8 = upZ (d 8) p e := by
  unfold dmark
  rw [dput_self, dput_ne (by omega), dput_ne (by omega), dput_ne (by omega)]
end Dm
theorem inG_row {d d' : Nat → Nat → Int} (h : d' 0 = d 0) {x y : Int} : inG d' x y ↔ inG d x y := by unfold inG; rw [h]
section Ad
variable {d : Nat → Nat → Int} {x y s k w : Int}
theorem dadd_lo {r : Nat} (h : r < 4) : dadd d x y s k w r = d r := by
  unfold dadd
  rw [dmark_lo (by omega), dput_ne (by omega)]
theorem dadd_cn {x' y' : Int} (g : 0 ≤ x ∧ x < 9 ∧ 0 ≤ y ∧ y < 9) (g' : 0 ≤ x' ∧ x' < 9 ∧ 0 ≤ y' ∧ y' < 9) : cn (dadd d x y s k w) x' y' = if x' = x ∧ y' = y then cn d x y + 1 else cn d x' y' := by
  unfold dadd
  show dmark _ _ _ _ _ _ 4 _ = _
  rw [dmark_lo (by omega), dput_self]
  by_cases c : x' = x ∧ y' = y
  · rw [if_pos c, upZ_eq _ _ (by rw [c.1, c.2])]
  · rw [if_neg c, upZ_ne _ _ (by omega)]
    rfl
theorem dadd_m {q : Nat} : dadd d x y s k w 5 q = upZ (d 5) (pl x y (cn d x y)) s q ∧ dadd d x y s k w 6 q = upZ (d 6) (pl x y (cn d x y)) k q ∧ dadd d x y s k w 7 q = upZ (d 7) (pl x y (cn d x y)) w q ∧ dadd d x y s k w 8 q = upZ (d 8) (pl x y (cn d x y)) (-9) q := by
  unfold dadd
  rw [dmark_5, dmark_6, dmark_7, dmark_8, dput_ne (by omega), dput_ne (by omega), dput_ne (by omega), dput_ne (by omega)]
  exact ⟨rfl, rfl, rfl, rfl⟩
theorem pl_ne {x y i x' y' i' : Int} (g : 0 ≤ x ∧ x < 9 ∧ 0 ≤ y ∧ y < 9) (g' : 0 ≤ x' ∧ x' < 9 ∧ 0 ≤ y' ∧ y' < 9) (i1 : 0 ≤ i) (i2 : i < 2) (j1 : 0 ≤ i') (j2 : i' < 2) (h : ¬ (x' = x ∧ y' = y ∧ i' = i)) : pl x' y' i' ≠ pl x y i := by
  unfold pl
  omega
theorem OkD_add (hO : OkD d) (g : inG d x y) (hc : cn d x y < 2) (s1 : 0 ≤ s) (s2 : s ≤ 26) (k1 : 0 ≤ k) (k2 : k ≤ 3) (w1 : 0 ≤ w) (w2 : w ≤ 8) : OkD (dadd d x y s k w) := by
  have g9 := hO.g9 g
  have hcn := hO.cn g
  refine ⟨?_, ?_, ?_, ?_⟩
  · rw [dadd_lo (by omega)]; exact hO.1
  · have := hO.2.1
    unfold lwOk at this ⊢
    rw [dadd_lo (by omega), dadd_lo (by omega), dadd_lo (by omega)]; exact this
  · have := hO.2.2.1
    unfold lwOk at this ⊢
    rw [dadd_lo (by omega), dadd_lo (by omega), dadd_lo (by omega)]; exact this
  · intro x' y' g'
    rw [inG_row (dadd_lo (by omega))] at g'
    have g9' := hO.g9 g'
    have hcn' := hO.cn g'
    have hk := hO.2.2.2 x' y' g'
    rw [dadd_cn g9 g9']
    by_cases c : x' = x ∧ y' = y
    · rw [if_pos c]
      obtain ⟨rfl, rfl⟩ := c
      refine ⟨by omega, by omega, fun i i1 i2 => ?_, fun h2 => ?_⟩
      · unfold mkOk
        obtain ⟨m5, m6, m7, m8⟩ := dadd_m (d := d) (x := x') (y := y') (s := s) (k := k) (w := w) (q := pl x' y' i)
        rw [m5, m6, m7, m8]
        by_cases ci : i = cn d x' y'
        · rw [ci, upZ_self, upZ_self, upZ_self, upZ_self]
          omega
        · have hp := pl_ne g9 g9 hcn.1 hc i1 (by omega) (fun z => ci z.2.2)
          rw [upZ_ne _ _ hp, upZ_ne _ _ hp, upZ_ne _ _ hp, upZ_ne _ _ hp]
          exact hk.2.2.1 i i1 (by omega)
      · refine Or.inr (Or.inl ?_)
        obtain ⟨m5, m6, m7, m8⟩ := dadd_m (d := d) (x := x') (y := y') (s := s) (k := k) (w := w) (q := pl x' y' 1)
        rw [m8, show cn d x' y' = 1 by omega, upZ_self]
    · rw [if_neg c]
      refine ⟨hk.1, hk.2.1, fun i i1 i2 => ?_, fun h2 => ?_⟩
      · unfold mkOk
        obtain ⟨m5, m6, m7, m8⟩ := dadd_m (d := d) (x := x) (y := y) (s := s) (k := k) (w := w) (q := pl x' y' i)
        have hp := pl_ne g9 g9' hcn.1 hc i1 (by omega) (fun z => c ⟨z.1, z.2.1⟩)
        rw [m5, m6, m7, m8, upZ_ne _ _ hp, upZ_ne _ _ hp, upZ_ne _ _ hp, upZ_ne _ _ hp]
        exact hk.2.2.1 i i1 i2
      · have hp0 := pl_ne g9 g9' hcn.1 hc (i' := 0) (by omega) (by omega) (fun z => c ⟨z.1, z.2.1⟩)
        have hp1 := pl_ne g9 g9' hcn.1 hc (i' := 1) (by omega) (by omega) (fun z => c ⟨z.1, z.2.1⟩)
        rw [dadd_m.2.2.2, dadd_m.2.2.2, upZ_ne _ _ hp0, upZ_ne _ _ hp1]
        exact hk.2.2.2 h2
end Ad
section Pn
variable {T : zT} {hz h : zH} {a : Nat} {r : Nat → Int} {d : Nat → Nat → Int}
end Pn
