/-! the reference's counts over a page -/
def onP (d : Nat → Nat → Int) (f : Int → Int → Int) (j : Nat) : Int := if ((j % 9 : Nat) : Int) < d 0 0 ∧ ((j / 9 : Nat) : Int) < d 0 1 then f (j % 9 : Nat) (j / 9 : Nat) else 0
theorem page_sum {d : Nat → Nat → Int} (hO : OkD d) (f : Int → Int → Int) : zsum 81 (onP d f) = gsum d f := by
  obtain ⟨w1, w2, w3, w4⟩ := hO.wh
  have e1 : zsum 81 (onP d f) = zsum 9 (fun y => zsum 9 (fun x => onP d f (9 * y + x))) := zsum_mul 9 9
  rw [e1, zsum_swap 9 9]
  unfold gsum
  rw [zsum_cut (m := (d 0 0).toNat) 9 w3 (fun x h1 h2 => zsum_zero 9 (fun y hy => ?_))]
  · refine zsum_congr _ (fun x hx => ?_)
    rw [zsum_cut (m := (d 0 1).toNat) 9 w4 (fun y h1 h2 => ?_)]
    · refine zsum_congr _ (fun y hy => ?_)
      unfold onP
      rw [show (9 * y + x) % 9 = x by omega, show (9 * y + x) / 9 = y by omega, if_pos ⟨by omega, by omega⟩]
    · unfold onP
      rw [show (9 * y + x) % 9 = x by omega, show (9 * y + x) / 9 = y by omega, if_neg (by omega)]
  · unfold onP
    rw [show (9 * y + x) % 9 = x by omega, show (9 * y + x) / 9 = y by omega, if_neg (by omega)]
theorem onP_in {d : Nat → Nat → Int} {f : Int → Int → Int} {j : Nat} (g : inG d (j % 9 : Nat) (j / 9 : Nat)) : onP d f j = f (j % 9 : Nat) (j / 9 : Nat) := if_pos ⟨g.2.1, g.2.2.2⟩
theorem onP_out {d : Nat → Nat → Int} {f : Int → Int → Int} {j : Nat} (g : ¬ inG d (j % 9 : Nat) (j / 9 : Nat)) : onP d f j = 0 := if_neg (fun z => g ⟨by omega, z.1, by omega, z.2⟩)
theorem inG_em (d : Nat → Nat → Int) (x y : Int) : inG d x y ∨ ¬ inG d x y := Classical.em _
theorem cel_j (j : Nat) : cel (j % 9 : Nat) (j / 9 : Nat) = 10 + 9 * (j : Int) := by unfold cel; omega
/-- a loop that joins answers -/
theorem loop_or {ρ : Type} {L : Nat → Int32 → Int32 → Option ρ} {K : Int32 → Option ρ} {P : Nat → Prop} {n : Nat} (hn : n < 9999) (hs : ∀ (k : Nat) (s : Int) (i : Nat), i < n → (s = 0 ∨ s = 1) → (P i ∧ L (k + 1) (iZ s) (iZ i) = L k (iZ 1) (iZ (i + 1))) ∨ (¬ P i ∧ L (k + 1) (iZ s) (iZ i) = L k (iZ s) (iZ (i + 1)))) (he : ∀ (k : Nat) (s : Int32), L (k + 1) s (iZ n) = K s) :
    ((∃ i, i < n ∧ P i) ∧ L FUEL (iZ 0) (iZ 0) = K (iZ 1)) ∨ ((∀ i, i < n → ¬ P i) ∧ L FUEL (iZ 0) (iZ 0) = K (iZ 0)) := by
  have key : ∀ (k : Nat) (s : Int) (i : Nat), (s = 0 ∨ s = 1) → i ≤ n → n - i < k → ((s = 1 ∨ ∃ m, i ≤ m ∧ m < n ∧ P m) ∧ L k (iZ s) (iZ i) = K (iZ 1)) ∨ ((s = 0 ∧ ∀ m, i ≤ m → m < n → ¬ P m) ∧ L k (iZ s) (iZ i) = K (iZ 0)) := by
    intro k
    induction k with
    | zero => intro s i _ _ h; omega
    | succ k ih =>
      intro s i h0 hi hk
      have e2 : ((i + 1 : Nat) : Int) = (i : Int) + 1 := rfl
      by_cases h : i = n
      · subst h
        rw [he k]
        rcases h0 with rfl | rfl
        · exact Or.inr ⟨⟨rfl, fun m h1 h2 => by omega⟩, rfl⟩
        · exact Or.inl ⟨Or.inl rfl, rfl⟩
      · rcases hs k s i (by omega) h0 with ⟨hp, e⟩ | ⟨hp, e⟩
        · rw [e]
          have h9 := ih 1 (i + 1) (Or.inr rfl) (by omega) (by omega)
          rw [e2] at h9
          rcases h9 with ⟨-, g⟩ | ⟨⟨z, -⟩, -⟩
          · exact Or.inl ⟨Or.inr ⟨i, by omega, by omega, hp⟩, g⟩
          · omega
        · rw [e]
          have h9 := ih s (i + 1) h0 (by omega) (by omega)
          rw [e2] at h9
          rcases h9 with ⟨h2 | ⟨m, a1, a2, a3⟩, g⟩ | ⟨⟨z, z2⟩, g⟩
          · exact Or.inl ⟨Or.inl h2, g⟩
          · exact Or.inl ⟨Or.inr ⟨m, by omega, a2, a3⟩, g⟩
          · refine Or.inr ⟨⟨z, fun m h1 h2 => ?_⟩, g⟩
            by_cases hj : m = i
            · rw [hj]; exact hp
            · exact z2 m (by omega) h2
  have h := key FUEL 0 0 (Or.inl rfl) (by omega) (by unfold FUEL; omega)
  rw [show ((0 : Nat) : Int) = 0 from rfl] at h
  rcases h with ⟨h2 | ⟨m, a1, a2, a3⟩, g⟩ | ⟨⟨z, z2⟩, g⟩
  · omega
  · exact Or.inl ⟨⟨m, a2, a3⟩, g⟩
  · exact Or.inr ⟨fun m hm => z2 m (by omega) hm, g⟩
section Ct
variable {T : zT} {hz h : zH} {a : Nat} {r : Nat → Int} {d : Nat → Nat → Int}
theorem dbt_sum (hO : OkD d) {x y : Int} (g : inG d x y) : zsum (cn d x y).toNat (fun i => if rlv d x y i = 50 then 1 else 0) = dbt d x y := by
  have hcn := hO.cn g
  unfold dbt
  by_cases c : own d x y = -9
  · rw [if_pos c]
    have e : zsum (cn d x y).toNat (fun i => if rlv d x y i = 50 then 1 else 0) = zsum (cn d x y).toNat (fun _ => (1 : Int)) := zsum_congr _ (fun i hi => if_pos ((rlv_50 hO g (by omega) (by omega) (by omega)).1.mpr c))
    rw [e]
    rcases (show cn d x y = 0 ∨ cn d x y = 1 ∨ cn d x y = 2 by omega) with q | q | q <;> rw [q] <;> rfl
  · rw [if_neg c]
    exact zsum_zero _ (fun i hi => if_neg (fun z => c ((rlv_50 hO g (by omega) (by omega) (by omega)).1.mp z)))
theorem gsum_congr (hO : OkD d) {f g : Int → Int → Int} (h : ∀ x y, inG d x y → f x y = g x y) : gsum d f = gsum d g := by
  obtain ⟨w1, w2, w3, w4⟩ := hO.wh
  exact zsum_congr _ (fun x hx => zsum_congr _ (fun y hy => h _ _ ⟨by omega, by omega, by omega, by omega⟩))
end Ct
