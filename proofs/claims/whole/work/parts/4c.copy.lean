/-! loops that write; copies of pages and of Sheets; a new page, a new Sheet -/
theorem loop_inv {ρ : Type} {L : Nat → Int32 → zH → Option ρ} {K : zH → Option ρ} {I : Nat → zH → Prop} {n : Nat} (hs : ∀ (k i : Nat) (h : zH), i < n → I i h → ∃ h', L (k + 1) (iZ i) h = L k (iZ (i + 1)) h' ∧ I (i + 1) h') (he : ∀ (k : Nat) (h : zH), I n h → L (k + 1) (iZ n) h = K h) : ∀ (k i : Nat) (h : zH), i ≤ n → n - i < k → I i h → ∃ h', L k (iZ i) h = K h' ∧ I n h' := by
  intro k
  induction k with
  | zero => intro i h _ h3; omega
  | succ k ih =>
    intro i h hi hk hI
    by_cases c : i = n
    · subst c
      exact ⟨h, he k h hI, hI⟩
    · obtain ⟨h1, e1, I1⟩ := hs k i h (by omega) hI
      obtain ⟨h2, e2, I2⟩ := ih (i + 1) h1 (by omega) (by omega) I1
      have e : ((i + 1 : Nat) : Int) = (i : Int) + 1 := rfl
      rw [e] at e2
      exact ⟨h2, e1.trans e2, I2⟩
theorem loop_inv0 {ρ : Type} {L : Nat → Int32 → zH → Option ρ} {K : zH → Option ρ} {I : Nat → zH → Prop} {n : Nat} (hn : n < 9999) (hs : ∀ (k i : Nat) (h : zH), i < n → I i h → ∃ h', L (k + 1) (iZ i) h = L k (iZ (i + 1)) h' ∧ I (i + 1) h') (he : ∀ (k : Nat) (h : zH), I n h → L (k + 1) (iZ n) h = K h) {h : zH} (h0 : I 0 h) : ∃ h', L FUEL (iZ 0) h = K h' ∧ I n h' := loop_inv hs he FUEL 0 h (by omega) (by unfold FUEL; omega) h0
theorem Arr.cong {T : zT} {h : zH} {a n : Nat} {f g : Nat → Int} (hA : Arr T h a n f) (e : ∀ j, f j = g j) : Arr T h a n g := by
  have : f = g := funext e
  rw [← this]; exact hA
section Cy
variable {T : zT} {h : zH}
def cpy (f g : Nat → Int) (p q n : Nat) : Nat → Int := fun j => if q ≤ j ∧ j < q + n then f (p + (j - q)) else g j
theorem copy_eq {a b n1 n2 p q : Nat} {f g : Nat → Int} (hA : Arr T h a n1 f) (hB : Arr T h b n2 g) (hab : a ≠ b) (h1 : p + 739 ≤ n1) (h2 : q + 739 ≤ n2) (m1 : n1 < 20000) (m2 : n2 < 20000) : ∃ h', FX7_copyPage T a (iZ p) b (iZ q) h = some h' ∧ Arr T h' b n2 (cpy f g p q 739) ∧ ∀ j, j ≠ b → h' j = h j := by
  refine Exists.elim (loop_inv0 (L := LX7_copyPage_3 T a (iZ p) b (iZ q) (fun (h9 : zH) => some h9)) (K := fun h => some h) (I := fun i h' => Arr T h' b n2 (cpy f g p q i) ∧ ∀ j, j ≠ b → h' j = h j) (n := 739) (by omega) (fun k i h3 hi hI => ?_) (fun k h3 hI => ?_) (h := h) ⟨hB.cong (fun j => ?_), fun _ _ => rfl⟩) ?_
  · obtain ⟨J1, J2⟩ := hI
    have hA3 : Arr T h3 a n1 f := hA.kept (J2 a hab)
    have z1 : zai T h3 a (iZ ((p : Int) + i)) = some (iZ (f ((p : Int) + i).toNat)) := zai_Arr hA3 (by omega) (by omega) (by omega)
    obtain ⟨h4, e4, a4, f4⟩ := zas_Arr (v := f ((p : Int) + i).toNat) J1 (i := (q : Int) + i) (by omega) (by omega) (by omega)
    refine ⟨h4, ?_, a4.cong (fun j => ?_), fun j hj => (f4 j hj).trans (J2 j hj)⟩
    · rw [LX7_copyPage_3.eq_2]
      simp (disch := omega) only [q739, iZ_le, if_neg, iZ_add, z1, zsn, e4, q1]
    · unfold cpy
      by_cases c : j = q + i
      · rw [upZ_eq _ _ (by omega), if_pos (by omega), show ((p : Int) + i).toNat = p + (j - q) by omega]
      · rw [upZ_ne _ _ (by omega)]
        by_cases c2 : q ≤ j ∧ j < q + i
        · rw [if_pos c2, if_pos (by omega)]
        · rw [if_neg c2, if_neg (by omega)]
  · rw [LX7_copyPage_3.eq_2]
    rw [q739, if_pos (by exact Int32.le_refl _)]
  · unfold cpy
    rw [if_neg (by omega)]
  · rintro h' ⟨e, I1, I2⟩
    exact ⟨h', by unfold FX7_copyPage; rw [q0]; exact e, I1, I2⟩
def clr (w v : Int) : Nat → Int := fun j => if j = 0 then w else if j = 1 then v else if j = 2 then 2 else if j = 3 then 2 else if j = 5 then 2 else if j = 7 then 3 else if j = 8 then 6 else if j = 9 then 1 else 0
theorem clear_eq {a : Nat} {r : Nat → Int} (hA : Arr T h a 739 r) (w v : Int) : ∃ h' r', FX7_clear T a (iZ w) (iZ v) h = some h' ∧ Arr T h' a 739 r' ∧ (∀ j, j < 739 → r' j = clr w v j) ∧ ∀ j, j ≠ a → h' j = h j := by
  have run : ∀ (g : zH) (f : Nat → Int), Arr T g a 739 f → (∀ j, j < 739 → f j = 0) → ∃ g' f', ((zas T g a (iZ 0) (iZ w)).bind fun h8 => (zas T h8 a (iZ 1) (iZ v)).bind fun h9 => (zas T h9 a (iZ 2) (iZ 2)).bind fun h10 => (zas T h10 a (iZ 3) (iZ 2)).bind fun h11 => (zas T h11 a (iZ 5) (iZ 2)).bind fun h12 => (zas T h12 a (iZ 7) (iZ 3)).bind fun h13 => (zas T h13 a (iZ 8) (iZ 6)).bind fun h14 => (zas T h14 a (iZ 9) (iZ 1)).bind fun h15 => some h15) = some g' ∧ Arr T g' a 739 f' ∧ (∀ j, j < 739 → f' j = clr w v j) ∧ ∀ j, j ≠ a → g' j = g j := by
    intro g f A0 hf
    obtain ⟨g1, e1, a1, f1⟩ := zas_p (v := w) A0 (i := 0) (by omega) (by omega)
    obtain ⟨g2, e2, a2, f2⟩ := zas_p (v := v) a1 (i := 1) (by omega) (by omega)
    obtain ⟨g3, e3, a3, f3⟩ := zas_p (v := 2) a2 (i := 2) (by omega) (by omega)
    obtain ⟨g4, e4, a4, f4⟩ := zas_p (v := 2) a3 (i := 3) (by omega) (by omega)
    obtain ⟨g5, e5, a5, f5⟩ := zas_p (v := 2) a4 (i := 5) (by omega) (by omega)
    obtain ⟨g6, e6, a6, f6⟩ := zas_p (v := 3) a5 (i := 7) (by omega) (by omega)
    obtain ⟨g7, e7, a7, f7⟩ := zas_p (v := 6) a6 (i := 8) (by omega) (by omega)
    obtain ⟨g8, e8, a8, f8⟩ := zas_p (v := 1) a7 (i := 9) (by omega) (by omega)
    refine ⟨g8, _, ?_, a8, fun j hj => ?_, fun j hj => (f8 j hj).trans ((f7 j hj).trans ((f6 j hj).trans ((f5 j hj).trans ((f4 j hj).trans ((f3 j hj).trans ((f2 j hj).trans (f1 j hj)))))))⟩
    · rw [e1, zsn, e2, zsn, e3, zsn, e4, zsn, e5, zsn, e6, zsn, e7, zsn, e8, zsn]
    · unfold clr
      have hz := hf j hj
      unfold upZ
      simp only [Int.reduceToNat]
      (repeat' split) <;> omega
  refine Exists.elim (loop_inv0 (L := LX7_clear_2 T a (iZ w) (iZ v) (fun (h7 : zH) => (zas T h7 a (iZ 0) (iZ w)).bind fun h8 => (zas T h8 a (iZ 1) (iZ v)).bind fun h9 => (zas T h9 a (iZ 2) (iZ 2)).bind fun h10 => (zas T h10 a (iZ 3) (iZ 2)).bind fun h11 => (zas T h11 a (iZ 5) (iZ 2)).bind fun h12 => (zas T h12 a (iZ 7) (iZ 3)).bind fun h13 => (zas T h13 a (iZ 8) (iZ 6)).bind fun h14 => (zas T h14 a (iZ 9) (iZ 1)).bind fun h15 => some h15)) (K := fun h7 => (zas T h7 a (iZ 0) (iZ w)).bind fun h8 => (zas T h8 a (iZ 1) (iZ v)).bind fun h9 => (zas T h9 a (iZ 2) (iZ 2)).bind fun h10 => (zas T h10 a (iZ 3) (iZ 2)).bind fun h11 => (zas T h11 a (iZ 5) (iZ 2)).bind fun h12 => (zas T h12 a (iZ 7) (iZ 3)).bind fun h13 => (zas T h13 a (iZ 8) (iZ 6)).bind fun h14 => (zas T h14 a (iZ 9) (iZ 1)).bind fun h15 => some h15) (I := fun i h' => (∃ f, Arr T h' a 739 f ∧ ∀ j, j < i → f j = 0) ∧ ∀ j, j ≠ a → h' j = h j) (n := 739) (by omega) (fun k i h3 hi hI => ?_) (fun k h3 hI => ?_) (h := h) ⟨⟨r, hA, fun j hj => by omega⟩, fun _ _ => rfl⟩) ?_
  · obtain ⟨⟨f, J1, J2⟩, J3⟩ := hI
    obtain ⟨h4, e4, a4, f4⟩ := zas_p (v := 0) J1 (i := i) (by omega) (by omega)
    refine ⟨h4, ?_, ⟨_, a4, fun j hj => ?_⟩, fun j hj => (f4 j hj).trans (J3 j hj)⟩
    · rw [LX7_clear_2.eq_2]
      simp (disch := omega) only [q739, iZ_le, if_neg, q0, e4, zsn, q1, iZ_add]
    · by_cases c : j = i
      · rw [upZ_eq _ _ (by omega)]
      · rw [upZ_ne _ _ (by omega)]
        exact J2 j (by omega)
  · rw [LX7_clear_2.eq_2]
    rw [q739, if_pos (by exact Int32.le_refl _)]
  · rintro h1 ⟨e, ⟨f1, I1, I2⟩, I3⟩
    obtain ⟨h2, f2, e2, a2, v2, k2⟩ := run h1 f1 I1 I2
    exact ⟨h2, f2, by unfold FX7_clear; rw [q0, q1, q2, q3, q5, q7, q8, q6, q9]; exact e.trans e2, a2, v2, fun j hj => (k2 j hj).trans (I3 j hj)⟩
end Cy
