/-! the reference lays the words of a letter: in step with the class -/
theorem wgo1_br (w : Nat → Nat → Int) (l p g : Int) : wgo1 w l p g 1 = w 1 ∧ wgo1 w l p g 2 = w 2 ∧ (((w 0 0 ≠ 0 ∧ l ≠ w 0 6 ∧ w 0 8 = 26) ∧ wgo1 w l p g 0 0 = w 0 0 ∧ wgo1 w l p g 0 5 = w 0 5 - 1 ∧ wgo1 w l p g 3 = w 3) ∨ (¬ (w 0 0 ≠ 0 ∧ l ≠ w 0 6 ∧ w 0 8 = 26) ∧ (w 0 0 ≠ 0 ∧ l = w 0 6 ∧ p - w 0 7 - 1 < g) ∧ wgo1 w l p g 0 0 = w 0 0 ∧ wgo1 w l p g 0 5 = w 0 5 ∧ wgo1 w l p g 3 = w 3) ∨ (¬ (w 0 0 ≠ 0 ∧ l ≠ w 0 6 ∧ w 0 8 = 26) ∧ ¬ (w 0 0 ≠ 0 ∧ l = w 0 6 ∧ p - w 0 7 - 1 < g) ∧ wgo1 w l p g 0 0 = w 0 0 + 1 ∧ wgo1 w l p g 0 5 = w 0 5 ∧ wgo1 w l p g 3 = upZ (w 3) (w 0 0).toNat (w 0 5))) := by
  unfold wgo1
  by_cases c1 : w 0 0 ≠ 0 ∧ l ≠ w 0 6 ∧ w 0 8 = 26
  · rw [if_pos c1]
    exact ⟨rfl, rfl, Or.inl ⟨c1, rfl, rfl, rfl⟩⟩
  · rw [if_neg c1]
    by_cases c2 : w 0 0 ≠ 0 ∧ l = w 0 6 ∧ p - w 0 7 - 1 < g
    · rw [if_pos c2]
      exact ⟨rfl, rfl, Or.inr (Or.inl ⟨c1, c2, rfl, rfl, rfl⟩)⟩
    · rw [if_neg c2]
      exact ⟨rfl, rfl, Or.inr (Or.inr ⟨c1, c2, rfl, rfl, rfl⟩)⟩
theorem wst_r {w : Nat → Nat → Int} {l p g s : Int} {c : Nat} : wst w c l p g s 1 = upZ (wgo1 w l p g 1) c (wgo1 w l p g 0 0 - 1) ∧ wst w c l p g s 2 = upZ (wgo1 w l p g 2) (wgo1 w l p g 0 5).toNat s ∧ wst w c l p g s 3 = wgo1 w l p g 3 := ⟨rfl, rfl, rfl⟩
section Lw
variable {T : zT} {k : zH} {m a : Nat} {r v bg sg wo : Nat → Int}
end Lw
