/-! a mark less, a decision, a letter's pen, margin and gap: page and Sheet stay the same sheet -/
section Rm
variable {d : Nat → Nat → Int} {x y i : Int}
theorem dmv_lo {r : Nat} (h : r < 5) : dmv d x y i r = d r := by
  unfold dmv
  by_cases c : i = 0
  · rw [if_pos c, dmark_lo h]
  · rw [if_neg c]
theorem drem_lo {r : Nat} (h : r < 4) : drem d x y i r = d r := by
  unfold drem
  rw [dput_ne (by omega), dmv_lo (by omega)]
theorem drem_hi {r : Nat} (h : 4 < r) : drem d x y i r = dmv d x y i r := by
  unfold drem
  rw [dput_ne (by omega)]
theorem drem_cn {x' y' : Int} (g : 0 ≤ x ∧ x < 9 ∧ 0 ≤ y ∧ y < 9) (g' : 0 ≤ x' ∧ x' < 9 ∧ 0 ≤ y' ∧ y' < 9) : cn (drem d x y i) x' y' = if x' = x ∧ y' = y then cn d x y - 1 else cn d x' y' := by
  show drem d x y i 4 _ = _
  unfold drem
  rw [dput_self, dmv_lo (by omega)]
  by_cases c : x' = x ∧ y' = y
  · rw [if_pos c, upZ_eq _ _ (by rw [c.1, c.2])]
  · rw [if_neg c, upZ_ne _ _ (by omega)]
    rfl
theorem drem_ot {q : Nat} (hq : q ≠ pl x y 0) : drem d x y i 5 q = d 5 q ∧ drem d x y i 6 q = d 6 q ∧ drem d x y i 7 q = d 7 q ∧ drem d x y i 8 q = d 8 q := by
  rw [drem_hi (by omega), drem_hi (by omega), drem_hi (by omega), drem_hi (by omega)]
  unfold dmv
  by_cases c : i = 0
  · rw [if_pos c, dmark_5, dmark_6, dmark_7, dmark_8, upZ_ne _ _ hq, upZ_ne _ _ hq, upZ_ne _ _ hq, upZ_ne _ _ hq]
    exact ⟨rfl, rfl, rfl, rfl⟩
  · rw [if_neg c]
    exact ⟨rfl, rfl, rfl, rfl⟩
theorem drem_0 : drem d x y i 5 (pl x y 0) = d 5 (pl x y (if i = 0 then 1 else 0)) ∧ drem d x y i 6 (pl x y 0) = d 6 (pl x y (if i = 0 then 1 else 0)) ∧ drem d x y i 7 (pl x y 0) = d 7 (pl x y (if i = 0 then 1 else 0)) ∧ drem d x y i 8 (pl x y 0) = d 8 (pl x y (if i = 0 then 1 else 0)) := by
  rw [drem_hi (by omega), drem_hi (by omega), drem_hi (by omega), drem_hi (by omega)]
  unfold dmv
  by_cases c : i = 0
  · rw [if_pos c, if_pos c, dmark_5, dmark_6, dmark_7, dmark_8, upZ_self, upZ_self, upZ_self, upZ_self]
    exact ⟨rfl, rfl, rfl, rfl⟩
  · rw [if_neg c, if_neg c]
    exact ⟨rfl, rfl, rfl, rfl⟩
theorem OkD_rem (hO : OkD d) (g : inG d x y) (i1 : 0 ≤ i) (i2 : i < cn d x y) : OkD (drem d x y i) := by
  have g9 := hO.g9 g
  have hcn := hO.cn g
  refine ⟨?_, ?_, ?_, ?_⟩
  · rw [drem_lo (by omega)]; exact hO.1
  · have := hO.2.1
    unfold lwOk at this ⊢
    rw [drem_lo (by omega), drem_lo (by omega), drem_lo (by omega)]; exact this
  · have := hO.2.2.1
    unfold lwOk at this ⊢
    rw [drem_lo (by omega), drem_lo (by omega), drem_lo (by omega)]; exact this
  · intro x' y' g'
    rw [inG_row (drem_lo (by omega))] at g'
    have g9' := hO.g9 g'
    have hcn' := hO.cn g'
    have hk := hO.2.2.2 x' y' g'
    rw [drem_cn g9 g9']
    by_cases c : x' = x ∧ y' = y
    · rw [if_pos c]
      obtain ⟨rfl, rfl⟩ := c
      refine ⟨by omega, by omega, fun j j1 j2 => ?_, fun h2 => by omega⟩
      have e : j = 0 := by omega
      subst e
      unfold mkOk
      obtain ⟨m5, m6, m7, m8⟩ := drem_0 (d := d) (x := x') (y := y') (i := i)
      rw [m5, m6, m7, m8]
      refine hk.2.2.1 _ ?_ ?_
      · split <;> omega
      · split <;> omega
    · rw [if_neg c]
      refine ⟨hk.1, hk.2.1, fun j j1 j2 => ?_, fun h2 => ?_⟩
      · unfold mkOk
        obtain ⟨m5, m6, m7, m8⟩ := drem_ot (d := d) (i := i) (pl_ne g9 g9' (i := 0) (by omega) (by omega) j1 (by omega) (fun z => c ⟨z.1, z.2.1⟩))
        rw [m5, m6, m7, m8]
        exact hk.2.2.1 j j1 j2
      · obtain ⟨-, -, -, m8⟩ := drem_ot (d := d) (i := i) (pl_ne g9 g9' (i := 0) (i' := 0) (by omega) (by omega) (by omega) (by omega) (fun z => c ⟨z.1, z.2.1⟩))
        obtain ⟨-, -, -, n8⟩ := drem_ot (d := d) (i := i) (pl_ne g9 g9' (i := 0) (i' := 1) (by omega) (by omega) (by omega) (by omega) (fun z => c ⟨z.1, z.2.1⟩))
        rw [m8, n8]
        exact hk.2.2.2 h2
end Rm
section Pr
variable {T : zT} {hz h : zH} {a : Nat} {r : Nat → Int} {d : Nat → Nat → Int}
end Pr
