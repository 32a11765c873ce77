/-! the signs of a reading are signs; the words of its cells are words -/
def SgIn (w : Nat → Nat → Int) : Prop := (∀ j : Nat, (j : Int) < w 0 5 → 0 ≤ w 2 j ∧ w 2 j ≤ 26) ∧ ∀ j : Nat, j < 81 → -9 ≤ w 1 j ∧ w 1 j ≤ 81
section Sg2
variable {w d : Nat → Nat → Int}
theorem SgIn_st {l p g s : Int} {c : Nat} (hW : RdOk w 80) (h : SgIn w) (s1 : 0 ≤ s) (s2 : s ≤ 26) : SgIn (wst w c l p g s) := by
  obtain ⟨e1, e2, e3⟩ := wst_r (w := w) (l := l) (p := p) (g := g) (s := s) (c := c)
  obtain ⟨v0, v1, v5, v6, v7, v8⟩ := wst_v (w := w) (l := l) (p := p) (g := g) (s := s) (c := c)
  obtain ⟨c1, c2, c3, c4, c5⟩ := wgo1_c (l := l) (p := p) (g := g) hW
  obtain ⟨b1, b2, -⟩ := wgo1_br w l p g
  have o1 := hW.1
  have o2 := hW.2.1
  refine ⟨fun j hj => ?_, fun j hj => ?_⟩
  · rw [v5] at hj
    rw [e2, b2]
    by_cases q : j = (wgo1 w l p g 0 5).toNat
    · rw [q, upZ_self]; omega
    · rw [upZ_ne _ _ q]; exact h.1 j (by omega)
  · rw [e1, b1]
    by_cases q : j = c
    · rw [q, upZ_self]; omega
    · rw [upZ_ne _ _ q]; exact h.2 j hj
theorem SgIn_cell (hO : OkD d) {L f l p : Int} (hW : RdOk w 80) (h : SgIn w) (g : inG d (cX f l p) (cY f l p)) : SgIn (wcell d L f w l p) := by
  unfold wcell
  by_cases c : sAt d L (cX f l p) (cY f l p) = -9
  · rw [if_pos c]; exact h
  · rw [if_neg c]
    have := sAt_in hO (L := L) g
    exact SgIn_st hW h (by omega) (by omega)
theorem SgIn_line (hO : OkD d) {L f : Int} {l : Nat} (hW : RdOk w (9 * l)) (h : SgIn w) (l2 : l < nL d f) : ∀ p : Nat, p ≤ nP d f → SgIn (wline d L f l w p)
  | 0, _ => h
  | p + 1, hp => by
    have h9 := nLP hO f
    have r := RdOk_line hO (L := L) hW l2 p (by omega)
    exact SgIn_cell hO (r.mono (by omega)) (SgIn_line hO hW h l2 p (by omega)) (cXY_in (by omega) (by omega) (by omega) (by omega))
theorem SgIn_all (hO : OkD d) {L f : Int} (hW : RdOk w 0) (h : SgIn w) : ∀ l : Nat, l ≤ nL d f → SgIn (wall d L f w l)
  | 0, _ => h
  | l + 1, hl => by
    have r := RdOk_all (f := f) hO (L := L) hW l (by omega)
    exact SgIn_line hO r (SgIn_all hO hW h l (by omega)) (by omega) (nP d f) (Nat.le_refl _)
theorem rdsg (hO : OkD d) {L : Nat} (hN : RdNew w) : SgIn (wall d L (d 3 L) w (nL d (d 3 L))) := by
  refine SgIn_all hO hN.ok ⟨fun j hj => ?_, fun j hj => ?_⟩ _ (Nat.le_refl _)
  · have := hN.2.2.1; omega
  · have := hN.2.2.2.2 j hj; omega
theorem wsg_in (hO : OkD d) {L : Nat} (hN : RdNew w) {m p : Int} (m1 : 0 ≤ m) (m2 : m < wall d L (d 3 L) w (nL d (d 3 L)) 0 0) : -2147483648 ≤ wsg (wall d L (d 3 L) w (nL d (d 3 L))) m p ∧ wsg (wall d L (d 3 L) w (nL d (d 3 L))) m p < 2147483648 := by
  have hl := wlen_in (rdso (L := L) hO hN) (rdok (L := L) hO hN) m1 m2
  unfold wsg
  by_cases c : 0 ≤ p ∧ p < wlen (wall d L (d 3 L) w (nL d (d 3 L))) m
  · rw [if_pos c]
    have := (rdsg (L := L) hO hN).1 (wall d L (d 3 L) w (nL d (d 3 L)) 3 m.toNat + p).toNat (by omega)
    omega
  · rw [if_neg c]; omega
end Sg2
/-! calls: wordLength, sign, wordAt, count -/
section C3
variable {T : zT} {hz h : zH} {b o : Nat} {n : Int} {tx : Nat → Int} {d : Nat → Nat → Int} {cnt nxt : Int} {dd : Nat → Nat → Nat → Int} {fl : Nat → Int} {ds : Nat → Nat → Nat → Int} {fs v tx7 r D kp kb : Nat → Int} {x : Int64}
end C3
