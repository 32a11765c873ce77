/-! the loops of the reference's laying of words -/
theorem loop_st {ρ σ : Type} {L : Nat → Int32 → σ → Option ρ} {K : σ → Option ρ} {I : Nat → σ → Prop} {n : Nat} (hn : n < 9999) (hs : ∀ (k i : Nat) (s : σ), i < n → I i s → ∃ s', L (k + 1) (iZ i) s = L k (iZ (i + 1)) s' ∧ I (i + 1) s') (he : ∀ (k : Nat) (s : σ), I n s → L (k + 1) (iZ n) s = K s) {s : σ} (h0 : I 0 s) : ∃ s', L FUEL (iZ 0) s = K s' ∧ I n s' := by
  have key : ∀ (k i : Nat) (s : σ), i ≤ n → n - i < k → I i s → ∃ s', L k (iZ i) s = K s' ∧ I n s' := by
    intro k
    induction k with
    | zero => intro i s _ h3; omega
    | succ k ih =>
      intro i s hi hk hI
      by_cases c : i = n
      · subst c
        exact ⟨s, he k s hI, hI⟩
      · obtain ⟨h1, e1, I1⟩ := hs k i s (by omega) hI
        obtain ⟨h2, e2, I2⟩ := ih (i + 1) h1 (by omega) (by omega) I1
        have e : ((i + 1 : Nat) : Int) = (i : Int) + 1 := rfl
        rw [e] at e2
        exact ⟨h2, e1.trans e2, I2⟩
  exact key FUEL 0 s (by omega) (by unfold FUEL; omega) h0
section Lx
variable {T : zT} {k : zH} {m a : Nat} {r v bg sg wo : Nat → Int} {w d : Nat → Nat → Int}
end Lx
