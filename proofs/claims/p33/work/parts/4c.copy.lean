/-! loops that write; copies of pages and of Sheets; a new page, a new Sheet -/
theorem loop_inv {ρ : Type} {L : Nat → Int32 → zH → Option ρ} {K : zH → Option ρ} {I : Nat → zH → Prop} {n : Nat} (hs : ∀ (k i : Nat) (h : zH), i < n → I i h → ∃ h', L (k + 1) (iZ i) h = L k (iZ (i + 1)) h' ∧ I (i + 1) h') (he : ∀ (k : Nat) (h : zH), I n h → L (k + 1) (iZ n) h = K h) : ∀ (k i : Nat) (h : zH), i ≤ n → n - i < k → I i h → ∃ h', L k (iZ i) h = K h' ∧ I n h' := by
  intro k
  induction k with
  | zero => intro i h _ h3; omega
  | succ k ih =>
    intro i h hi hk hI
    by_cases c : i = n
    · subst c
      exact ⟨h, he k h hI, hI⟩
    · obtain ⟨h1, e1, I1⟩ := hs k i h (by omega) hI
      obtain ⟨h2, e2, I2⟩ := ih (i + 1) h1 (by omega) (by omega) I1
      have e : ((i + 1 : Nat) : Int) = (i : Int) + 1 := rfl
      rw [e] at e2
      exact ⟨h2, e1.trans e2, I2⟩
theorem loop_inv0 {ρ : Type} {L : Nat → Int32 → zH → Option ρ} {K : zH → Option ρ} {I : Nat → zH → Prop} {n : Nat} (hn : n < 9999) (hs : ∀ (k i : Nat) (h : zH), i < n → I i h → ∃ h', L (k + 1) (iZ i) h = L k (iZ (i + 1)) h' ∧ I (i + 1) h') (he : ∀ (k : Nat) (h : zH), I n h → L (k + 1) (iZ n) h = K h) {h : zH} (h0 : I 0 h) : ∃ h', L FUEL (iZ 0) h = K h' ∧ I n h' := loop_inv hs he FUEL 0 h (by omega) (by unfold FUEL; omega) h0
theorem Arr.cong {T : zT} {h : zH} {a n : Nat} {f g : Nat → Int} (hA : Arr T h a n f) (e : ∀ j, f j = g j) : Arr T h a n g := by
  have : f = g := funext e
  rw [← this]; exact hA
section Cy
variable {T : zT} {hz h : zH}
end Cy
