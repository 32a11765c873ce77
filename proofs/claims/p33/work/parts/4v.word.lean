/-! words of a reading: where they begin, how long they are, their signs -/
def SO (w : Nat → Nat → Int) : Prop := ∀ j : Nat, (j : Int) < w 0 0 → 0 ≤ w 3 j ∧ w 3 j < w 0 5 ∧ ((j : Int) + 1 < w 0 0 → w 3 j < w 3 (j + 1))
def wlen (w : Nat → Nat → Int) (i : Int) : Int := (if w 0 0 ≤ i + 1 then w 0 5 else w 3 (i + 1).toNat) - w 3 i.toNat
section So
variable {w d : Nat → Nat → Int}
theorem SO_st {l p g s : Int} {c : Nat} (hW : RdOk w 80) (h : SO w) : SO (wst w c l p g s) := by
  obtain ⟨b1, b2, b3, b4, b5, b6, b7, b8, b9, b10, b11, b12, b13, b14⟩ := hW
  obtain ⟨v0, v1, v5, v6, v7, v8⟩ := wst_v (w := w) (l := l) (p := p) (g := g) (s := s) (c := c)
  obtain ⟨-, -, y3⟩ := wst_r (w := w) (l := l) (p := p) (g := g) (s := s) (c := c)
  obtain ⟨u1, u2, u3⟩ := wgo1_br w l p g
  intro j hj
  rw [v0] at hj ⊢
  rw [v5, y3]
  rcases u3 with ⟨t1, t2, t3, t4⟩ | ⟨t1, t2, t3, t4, t5⟩ | ⟨t1, t2, t3, t4, t5⟩
  · rw [t2] at hj ⊢
    rw [t3, t4]
    have := h j hj
    omega
  · rw [t3] at hj ⊢
    rw [t4, t5]
    have := h j hj
    omega
  · rw [t3] at hj ⊢
    rw [t4, t5]
    by_cases cj : j = (w 0 0).toNat
    · rw [upZ_eq _ _ cj]
      omega
    · have hh := h j (by omega)
      rw [upZ_ne _ _ cj]
      refine ⟨hh.1, by omega, fun h2 => ?_⟩
      by_cases ck : j + 1 = (w 0 0).toNat
      · rw [upZ_eq _ _ ck]; exact hh.2.1
      · rw [upZ_ne _ _ ck]; exact hh.2.2 (by omega)
theorem SO_cell {L f l p : Int} (hW : RdOk w 80) (h : SO w) : SO (wcell d L f w l p) := by
  unfold wcell
  by_cases c1 : sAt d L (cX f l p) (cY f l p) = -9
  · rw [if_pos c1]; exact h
  · rw [if_neg c1]; exact SO_st hW h
theorem SO_line (hO : OkD d) {L f : Int} {l : Nat} (hW : RdOk w (9 * l)) (h : SO w) (l2 : l < nL d f) : ∀ p : Nat, p ≤ nP d f → SO (wline d L f l w p)
  | 0, _ => h
  | p + 1, hp => by
    obtain ⟨a, c⟩ := nLP hO f
    exact SO_cell ((RdOk_line (f := f) hO (L := L) hW l2 p (by omega)).mono (by omega)) (SO_line hO hW h l2 p (by omega))
theorem SO_all (hO : OkD d) {L f : Int} (hW : RdOk w 0) (h : SO w) : ∀ l : Nat, l ≤ nL d f → SO (wall d L f w l)
  | 0, _ => h
  | l + 1, hl => SO_line hO (RdOk_all (f := f) hO (L := L) hW l (by omega)) (SO_all hO hW h l (by omega)) (by omega) _ (Nat.le_refl _)
theorem SO_new (hN : RdNew w) : SO w := fun j hj => by
  have := hN.1
  omega
theorem wlen_in (h : SO w) (hW : RdOk w 81) {i : Int} (i1 : 0 ≤ i) (i2 : i < w 0 0) : 0 ≤ w 3 i.toNat ∧ 1 ≤ wlen w i ∧ w 3 i.toNat + wlen w i ≤ w 0 5 := by
  have h0 := h i.toNat (by omega)
  unfold wlen
  by_cases c : w 0 0 ≤ i + 1
  · rw [if_pos c]; omega
  · rw [if_neg c]
    have h1 := h (i + 1).toNat (by omega)
    have h2 := h0.2.2 (by omega)
    rw [show i.toNat + 1 = (i + 1).toNat by omega] at h2
    omega
end So
section Sg
variable {T : zT} {hz h : zH} {R : Nat} {w : Nat → Nat → Int}
theorem hasNum_t (hS : RdAt T h R w) (hW : RdOk w 81) {i : Int} (i1 : 0 ≤ i) (i2 : i < w 0 0) : FX2_hasNumber T R (iZ i) h = some (iZ 1) := by
  have hw := hW.2.1
  unfold FX2_hasNumber
  rw [rd_zo hS, zsn]
  simp only [zJn]
  rw [q0, if_neg (by rw [iZ_lt (by omega) (by omega) (by omega) (by omega)]; omega), rd_g0 hS, zsn, if_neg (by rw [iZ_le (by omega) (by omega) (by omega) (by omega)]; omega), q1, if_pos (Or.inr trivial)]
theorem hasNum_f (hS : RdAt T h R w) (hW : RdOk w 81) {i : Int} (i1 : -2147483648 ≤ i) (i2 : i < 2147483648) (g : ¬ (0 ≤ i ∧ i < w 0 0)) : FX2_hasNumber T R (iZ i) h = some (iZ 0) := by
  have hw := hW.2.1
  have hw0 := hW.1
  unfold FX2_hasNumber
  rw [rd_zo hS, zsn]
  simp only [zJn]
  by_cases c : i < 0
  · rw [q0, if_pos (by rw [iZ_lt (by omega) (by omega) (by omega) (by omega)]; omega), if_pos (Or.inl trivial)]
  · rw [q0, if_neg (by rw [iZ_lt (by omega) (by omega) (by omega) (by omega)]; omega), rd_g0 hS, zsn, if_pos (by rw [iZ_le (by omega) (by omega) (by omega) (by omega)]; omega), if_pos (Or.inl trivial)]
theorem lengthOf_eq (hS : RdAt T h R w) (hW : RdOk w 81) {i : Int} (i1 : 0 ≤ i) (i2 : i < w 0 0) : FX2_lengthOf T R (iZ i) h = some (iZ (wlen w i)) := by
  have hw := hW.2.1
  have a0 : FX1_at T (R + 5) (iZ i) h = some (iZ (w 3 i.toNat)) := at_in (hS.2 3 (by omega) (by omega)) (by omega) (by omega) (by omega)
  unfold FX2_lengthOf wlen
  rw [rd_zo hS, zsn, hasNum_t hS hW i1 i2, zsn]
  simp only [zJn]
  rw [q0, if_neg (by decide), rd_g0 hS, zsn, q1, iZ_add]
  by_cases c : w 0 0 ≤ i + 1
  · rw [if_pos (by rw [iZ_le (by omega) (by omega) (by omega) (by omega)]; exact c), if_pos c, rd_g5 hS, zsn, rd_r3 hS, zsn, a0, zsn, iZ_sub]
  · have a1 : FX1_at T (R + 5) (iZ (i + 1)) h = some (iZ (w 3 (i + 1).toNat)) := at_in (hS.2 3 (by omega) (by omega)) (by omega) (by omega) (by omega)
    rw [if_neg (by rw [iZ_le (by omega) (by omega) (by omega) (by omega)]; exact c), if_neg c, rd_r3 hS, zsn, a1, zsn, zsn, a0, zsn, iZ_sub]
def wsg (w : Nat → Nat → Int) (i p : Int) : Int := if 0 ≤ p ∧ p < wlen w i then w 2 (w 3 i.toNat + p).toNat else -9
theorem signAt_eq (hS : RdAt T h R w) (hW : RdOk w 81) (hO : SO w) {i p : Int} (i1 : 0 ≤ i) (i2 : i < w 0 0) (p1 : -2147483648 ≤ p) (p2 : p < 2147483648) : FX2_signAt T R (iZ i) (iZ p) h = some (iZ (wsg w i p)) := by
  have hw := hW.2.1
  have hs := hW.2.2.2.2.2.1
  obtain ⟨l1, l2, l3⟩ := wlen_in hO hW i1 i2
  unfold FX2_signAt wsg
  rw [rd_zo hS, zsn]
  simp only [zJn]
  by_cases c : p < 0
  · rw [q0, if_pos (by rw [iZ_lt (by omega) (by omega) (by omega) (by omega)]; omega), if_neg (by omega)]
    rfl
  · rw [q0, if_neg (by rw [iZ_lt (by omega) (by omega) (by omega) (by omega)]; omega), lengthOf_eq hS hW i1 i2, zsn]
    by_cases c2 : wlen w i ≤ p
    · rw [if_pos (by rw [iZ_le (by omega) (by omega) (by omega) (by omega)]; exact c2), if_neg (by omega)]
      rfl
    · have a0 : FX1_at T (R + 5) (iZ i) h = some (iZ (w 3 i.toNat)) := at_in (hS.2 3 (by omega) (by omega)) (by omega) (by omega) (by omega)
      have a1 : FX1_at T (R + 3) (iZ (w 3 i.toNat + p)) h = some (iZ (w 2 (w 3 i.toNat + p).toNat)) := at_in (hS.2 2 (by omega) (by omega)) (by omega) (by omega) (by omega)
      rw [if_neg (by rw [iZ_le (by omega) (by omega) (by omega) (by omega)]; exact c2), if_pos (by omega), rd_r2 hS, zsn, rd_r3 hS, zsn, a0, zsn, iZ_add, a1, zsn]
end Sg
