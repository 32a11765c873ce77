/-! the class reads a text, character by character -/
def dg (c : Int) : Int := if 48 ≤ c ∧ c ≤ 57 then c - 48 else -9
theorem dg_in {c : Int} : (dg c = -9 ∧ ¬ (48 ≤ c ∧ c ≤ 57)) ∨ (dg c = c - 48 ∧ 48 ≤ c ∧ c ≤ 57) := by
  unfold dg
  by_cases h : 48 ≤ c ∧ c ≤ 57
  · rw [if_pos h]; exact Or.inr ⟨rfl, h⟩
  · rw [if_neg h]; exact Or.inl ⟨rfl, h⟩
theorem r11 : (11 : Int32) = iZ 11 := rfl
theorem r12 : (12 : Int32) = iZ 12 := rfl
theorem r13 : (13 : Int32) = iZ 13 := rfl
theorem r45 : (45 : Int32) = iZ 45 := rfl
theorem r48 : (48 : Int32) = iZ 48 := rfl
theorem r57 : (57 : Int32) = iZ 57 := rfl
theorem r83 : (83 : Int32) = iZ 83 := rfl
theorem r97 : (97 : Int32) = iZ 97 := rfl
theorem r103 : (103 : Int32) = iZ 103 := rfl
theorem r109 : (109 : Int32) = iZ 109 := rfl
theorem r112 : (112 : Int32) = iZ 112 := rfl
theorem r118 : (118 : Int32) = iZ 118 := rfl
theorem r122 : (122 : Int32) = iZ 122 := rfl
section Tr
variable {T : zT} {hz h : zH} {b o : Nat} {n : Int} {tx : Nat → Int} {d : Nat → Nat → Int} {cnt nxt : Int} {dd : Nat → Nat → Nat → Int} {fl : Nat → Int} {ds : Nat → Nat → Nat → Int} {fs v tx7 r D kp kb : Nat → Int} {x : Int64}
variable {h' : zH} {t : Nat → Int} {R : Nat} {e : Nat → Nat → Int}
theorem tr_zo (H : TrAt h R t) : zo h R 5 = some [.int (iZ (t 0)), .int (iZ (t 1)), .int (iZ (t 2)), .int (iZ (t 3)), .int (iZ (t 4)), .int (iZ (t 5)), .int (iZ (t 6))] := zo_of H
theorem tr_g0 (H : TrAt h R t) : zgi h R 5 0 = some (iZ (t 0)) := by unfold zgi; rw [tr_zo H]; rfl
theorem tr_g1 (H : TrAt h R t) : zgi h R 5 1 = some (iZ (t 1)) := by unfold zgi; rw [tr_zo H]; rfl
theorem tr_g2 (H : TrAt h R t) : zgi h R 5 2 = some (iZ (t 2)) := by unfold zgi; rw [tr_zo H]; rfl
theorem tr_g3 (H : TrAt h R t) : zgi h R 5 3 = some (iZ (t 3)) := by unfold zgi; rw [tr_zo H]; rfl
theorem tr_g4 (H : TrAt h R t) : zgi h R 5 4 = some (iZ (t 4)) := by unfold zgi; rw [tr_zo H]; rfl
theorem tr_g5 (H : TrAt h R t) : zgi h R 5 5 = some (iZ (t 5)) := by unfold zgi; rw [tr_zo H]; rfl
theorem tr_g6 (H : TrAt h R t) : zgi h R 5 6 = some (iZ (t 6)) := by unfold zgi; rw [tr_zo H]; rfl
theorem tr_set (H : TrAt h R t) {k : Nat} (hk : k < 7) (y : Int) : ∃ h', zpv h R 5 k (.int (iZ y)) = some h' ∧ TrAt h' R (upZ t k y) ∧ ∀ q, q ≠ R → h' q = h q := by
  rcases (show k = 0 ∨ k = 1 ∨ k = 2 ∨ k = 3 ∨ k = 4 ∨ k = 5 ∨ k = 6 by omega) with rfl | rfl | rfl | rfl | rfl | rfl | rfl
  · exact ⟨_, by unfold zpv; rw [tr_zo H]; rfl, va_up_self _ _ _, fun q hq => va_up_ne _ _ hq⟩
  · exact ⟨_, by unfold zpv; rw [tr_zo H]; rfl, va_up_self _ _ _, fun q hq => va_up_ne _ _ hq⟩
  · exact ⟨_, by unfold zpv; rw [tr_zo H]; rfl, va_up_self _ _ _, fun q hq => va_up_ne _ _ hq⟩
  · exact ⟨_, by unfold zpv; rw [tr_zo H]; rfl, va_up_self _ _ _, fun q hq => va_up_ne _ _ hq⟩
  · exact ⟨_, by unfold zpv; rw [tr_zo H]; rfl, va_up_self _ _ _, fun q hq => va_up_ne _ _ hq⟩
  · exact ⟨_, by unfold zpv; rw [tr_zo H]; rfl, va_up_self _ _ _, fun q hq => va_up_ne _ _ hq⟩
  · exact ⟨_, by unfold zpv; rw [tr_zo H]; rfl, va_up_self _ _ _, fun q hq => va_up_ne _ _ hq⟩
theorem digitOf_eq {c : Int} (c1 : 0 ≤ c) (c2 : c ≤ 255) : FX5_digitOf T (iZ c) h = some (iZ (dg c)) := by
  unfold FX5_digitOf dg
  simp only [zJn]
  rw [r48, r57]
  by_cases h1 : c < 48
  · rw [if_pos (by rw [iZ_lt (by omega) (by omega) (by omega) (by omega)]; exact h1), if_neg (by omega), qm9]
  rw [if_neg (by rw [iZ_lt (by omega) (by omega) (by omega) (by omega)]; exact h1)]
  by_cases h2 : 57 < c
  · rw [if_pos (by rw [iZ_lt (by omega) (by omega) (by omega) (by omega)]; exact h2), if_neg (by omega), qm9]
  · rw [if_neg (by rw [iZ_lt (by omega) (by omega) (by omega) (by omega)]; exact h2), if_pos (by omega), iZ_sub]
theorem al0 (H : TrAt h (b + 3) t)  {c : Int} (c1 : 0 ≤ c) (c2 : c ≤ 255) (ht : t 0 = 0) : FX5_allows T (b + 3) (b + 21) (iZ c) h = some (iZ (ind (c = 83))) := by
  have hd := dg_in (c := c)
  unfold FX5_allows
  rw [tr_zo H, zsn]
  simp only [zJn]
  rw [digitOf_eq c1 c2, zsn, tr_g0 H, zsn, ht, q0, q1, if_pos (show iZ 0 = iZ 0 from rfl)]
  by_cases g : c = 83
  · rw [r83, if_pos (by rw [iZ_eq (by omega) (by omega) (by omega) (by omega)]; omega), ind_t g]
    (first | rw [if_pos (Or.inr rfl)] | rw [if_pos (Or.inr trivial)])
  · rw [r83, if_neg (by rw [iZ_eq (by omega) (by omega) (by omega) (by omega)]; omega), ind_f g]
    (first | rw [if_pos (Or.inl rfl)] | rw [if_pos (Or.inl trivial)])
theorem al1 (H : TrAt h (b + 3) t)  {c : Int} (c1 : 0 ≤ c) (c2 : c ≤ 255) (ht : t 0 = 1) : FX5_allows T (b + 3) (b + 21) (iZ c) h = some (iZ (ind (1 ≤ dg c))) := by
  have hd := dg_in (c := c)
  unfold FX5_allows
  rw [tr_zo H, zsn]
  simp only [zJn]
  rw [digitOf_eq c1 c2, zsn, tr_g0 H, zsn, ht, q0, q1, if_neg (show ¬ iZ 1 = iZ 0 by decide), if_pos (show iZ 1 = iZ 1 from rfl)]
  by_cases g : 1 ≤ dg c
  · rw [if_neg (by rw [iZ_lt (by omega) (by omega) (by omega) (by omega)]; omega), ind_t g]
    (first | rw [if_pos (Or.inr rfl)] | rw [if_pos (Or.inr trivial)])
  · rw [if_pos (by rw [iZ_lt (by omega) (by omega) (by omega) (by omega)]; omega), ind_f g]
    (first | rw [if_pos (Or.inl rfl)] | rw [if_pos (Or.inl trivial)])
theorem al2 (H : TrAt h (b + 3) t)  {c : Int} (c1 : 0 ≤ c) (c2 : c ≤ 255) (ht : t 0 = 2) : FX5_allows T (b + 3) (b + 21) (iZ c) h = some (iZ (ind (1 ≤ dg c))) := by
  have hd := dg_in (c := c)
  unfold FX5_allows
  rw [tr_zo H, zsn]
  simp only [zJn]
  rw [digitOf_eq c1 c2, zsn, tr_g0 H, zsn, ht, q0, q1, if_neg (show ¬ iZ 2 = iZ 0 by decide), if_neg (show ¬ iZ 2 = iZ 1 by decide), q2, if_pos (show iZ 2 = iZ 2 from rfl)]
  by_cases g : 1 ≤ dg c
  · rw [if_neg (by rw [iZ_lt (by omega) (by omega) (by omega) (by omega)]; omega), ind_t g]
    (first | rw [if_pos (Or.inr rfl)] | rw [if_pos (Or.inr trivial)])
  · rw [if_pos (by rw [iZ_lt (by omega) (by omega) (by omega) (by omega)]; omega), ind_f g]
    (first | rw [if_pos (Or.inl rfl)] | rw [if_pos (Or.inl trivial)])
theorem al3 (H : TrAt h (b + 3) t) (M : ShAt T h (b + 21) e) (hO : OkD e) {c : Int} (c1 : 0 ≤ c) (c2 : c ≤ 255) (ht : t 0 = 3) : FX5_allows T (b + 3) (b + 21) (iZ c) h = some (iZ (ind ((c = 109 ∧ anyR e) ∨ c = 103 ∨ c = 118 ∨ c = 112))) := by
  have hd := dg_in (c := c)
  unfold FX5_allows
  rw [tr_zo H, zsn]
  simp only [zJn]
  rw [digitOf_eq c1 c2, zsn, tr_g0 H, zsn, ht, q0, q1, if_neg (show ¬ iZ 3 = iZ 0 by decide), if_neg (show ¬ iZ 3 = iZ 1 by decide), q2, if_neg (show ¬ iZ 3 = iZ 2 by decide), q3, if_pos (show iZ 3 = iZ 3 from rfl)]
  rw [r109]
  by_cases g1 : c = 109
  · rw [if_pos (by rw [iZ_eq (by omega) (by omega) (by omega) (by omega)]; omega)]
    rcases anyRoom_eq M hO with ⟨w, w2⟩ | ⟨w, w2⟩
    · rw [w2, zsn, ind_t (Or.inl ⟨g1, w⟩)]
      (first | rw [if_pos (Or.inr rfl)] | rw [if_pos (Or.inr trivial)])
    · rw [w2, zsn, ind_f (show ¬ ((c = 109 ∧ anyR e) ∨ c = 103 ∨ c = 118 ∨ c = 112) from fun z => by
        rcases z with z | z
        · exact w z.2
        · omega)]
      (first | rw [if_pos (Or.inl rfl)] | rw [if_pos (Or.inl trivial)])
  rw [if_neg (by rw [iZ_eq (by omega) (by omega) (by omega) (by omega)]; omega), r103]
  by_cases g2 : c = 103
  · rw [if_pos (by rw [iZ_eq (by omega) (by omega) (by omega) (by omega)]; omega), ind_t (Or.inr (Or.inl g2))]
    (first | rw [if_pos (Or.inr rfl)] | rw [if_pos (Or.inr trivial)])
  rw [if_neg (by rw [iZ_eq (by omega) (by omega) (by omega) (by omega)]; omega), r118]
  by_cases g3 : c = 118
  · rw [if_pos (by rw [iZ_eq (by omega) (by omega) (by omega) (by omega)]; omega), ind_t (Or.inr (Or.inr (Or.inl g3)))]
    (first | rw [if_pos (Or.inr rfl)] | rw [if_pos (Or.inr trivial)])
  rw [if_neg (by rw [iZ_eq (by omega) (by omega) (by omega) (by omega)]; omega), r112]
  by_cases g4 : c = 112
  · rw [if_pos (by rw [iZ_eq (by omega) (by omega) (by omega) (by omega)]; omega), ind_t (Or.inr (Or.inr (Or.inr g4)))]
    (first | rw [if_pos (Or.inr rfl)] | rw [if_pos (Or.inr trivial)])
  · rw [if_neg (by rw [iZ_eq (by omega) (by omega) (by omega) (by omega)]; omega), ind_f (show ¬ ((c = 109 ∧ anyR e) ∨ c = 103 ∨ c = 118 ∨ c = 112) from fun z => by
      rcases z with z | z
      · exact g1 z.1
      · omega)]
    (first | rw [if_pos (Or.inl rfl)] | rw [if_pos (Or.inl trivial)])
theorem al4 (H : TrAt h (b + 3) t) (M : ShAt T h (b + 21) e) (hO : OkD e) {c : Int} (c1 : 0 ≤ c) (c2 : c ≤ 255) (ht : t 0 = 4) : FX5_allows T (b + 3) (b + 21) (iZ c) h = some (iZ (ind (colR e (dg c)))) := by
  have hd := dg_in (c := c)
  unfold FX5_allows
  rw [tr_zo H, zsn]
  simp only [zJn]
  rw [digitOf_eq c1 c2, zsn, tr_g0 H, zsn, ht, q0, q1, if_neg (show ¬ iZ 4 = iZ 0 by decide), if_neg (show ¬ iZ 4 = iZ 1 by decide), q2, if_neg (show ¬ iZ 4 = iZ 2 by decide), q3, if_neg (show ¬ iZ 4 = iZ 3 by decide), q4, if_pos (show iZ 4 = iZ 4 from rfl)]
  rcases colRoom_eq M hO (x := dg c) (by omega) (by omega) with ⟨w, w2⟩ | ⟨w, w2⟩
  · rw [w2, zsn, ind_t w]
    (first | rw [if_pos (Or.inr rfl)] | rw [if_pos (Or.inr trivial)])
  · rw [w2, zsn, ind_f w]
    (first | rw [if_pos (Or.inl rfl)] | rw [if_pos (Or.inl trivial)])
theorem al5 (H : TrAt h (b + 3) t) (M : ShAt T h (b + 21) e) (hO : OkD e) (h1 : -9 ≤ t 1 ∧ t 1 ≤ 9) {c : Int} (c1 : 0 ≤ c) (c2 : c ≤ 255) (ht : t 0 = 5) : FX5_allows T (b + 3) (b + 21) (iZ c) h = some (iZ (ind (inG e (t 1) (dg c) ∧ cn e (t 1) (dg c) < 2))) := by
  have hd := dg_in (c := c)
  unfold FX5_allows
  rw [tr_zo H, zsn]
  simp only [zJn]
  rw [digitOf_eq c1 c2, zsn, tr_g0 H, zsn, ht, q0, q1, if_neg (show ¬ iZ 5 = iZ 0 by decide), if_neg (show ¬ iZ 5 = iZ 1 by decide), q2, if_neg (show ¬ iZ 5 = iZ 2 by decide), q3, if_neg (show ¬ iZ 5 = iZ 3 by decide), q4, if_neg (show ¬ iZ 5 = iZ 4 by decide), q5, if_pos (show iZ 5 = iZ 5 from rfl)]
  rw [tr_g1 H, zsn]
  by_cases g : inG e (t 1) (dg c) ∧ cn e (t 1) (dg c) < 2
  · rw [hasRoom_t M hO g.1 g.2, zsn, ind_t g]
    (first | rw [if_pos (Or.inr rfl)] | rw [if_pos (Or.inr trivial)])
  · rw [hasRoom_f M hO (by omega) (by omega) (by omega) (by omega) g, zsn, ind_f g]
    (first | rw [if_pos (Or.inl rfl)] | rw [if_pos (Or.inl trivial)])
theorem al6 (H : TrAt h (b + 3) t)  {c : Int} (c1 : 0 ≤ c) (c2 : c ≤ 255) (ht : t 0 = 6) : FX5_allows T (b + 3) (b + 21) (iZ c) h = some (iZ (ind (c = 45 ∨ (97 ≤ c ∧ c ≤ 122)))) := by
  have hd := dg_in (c := c)
  unfold FX5_allows
  rw [tr_zo H, zsn]
  simp only [zJn]
  rw [digitOf_eq c1 c2, zsn, tr_g0 H, zsn, ht, q0, q1, if_neg (show ¬ iZ 6 = iZ 0 by decide), if_neg (show ¬ iZ 6 = iZ 1 by decide), q2, if_neg (show ¬ iZ 6 = iZ 2 by decide), q3, if_neg (show ¬ iZ 6 = iZ 3 by decide), q4, if_neg (show ¬ iZ 6 = iZ 4 by decide), q5, if_neg (show ¬ iZ 6 = iZ 5 by decide), q6, if_pos (show iZ 6 = iZ 6 from rfl)]
  rw [r45, r97, r122]
  by_cases g1 : c = 45
  · rw [if_pos (by rw [iZ_eq (by omega) (by omega) (by omega) (by omega)]; omega), ind_t (Or.inl g1)]
    (first | rw [if_pos (Or.inr rfl)] | rw [if_pos (Or.inr trivial)])
  rw [if_neg (by rw [iZ_eq (by omega) (by omega) (by omega) (by omega)]; omega)]
  by_cases g2 : c < 97
  · rw [if_pos (by rw [iZ_lt (by omega) (by omega) (by omega) (by omega)]; omega), ind_f (by omega)]
    (first | rw [if_pos (Or.inl rfl)] | rw [if_pos (Or.inl trivial)])
  rw [if_neg (by rw [iZ_lt (by omega) (by omega) (by omega) (by omega)]; omega)]
  by_cases g3 : 122 < c
  · rw [if_pos (by rw [iZ_lt (by omega) (by omega) (by omega) (by omega)]; omega), ind_f (by omega)]
    (first | rw [if_pos (Or.inl rfl)] | rw [if_pos (Or.inl trivial)])
  · rw [if_neg (by rw [iZ_lt (by omega) (by omega) (by omega) (by omega)]; omega), ind_t (by omega)]
    (first | rw [if_pos (Or.inr rfl)] | rw [if_pos (Or.inr trivial)])
theorem al7 (H : TrAt h (b + 3) t)  {c : Int} (c1 : 0 ≤ c) (c2 : c ≤ 255) (ht : t 0 = 7) : FX5_allows T (b + 3) (b + 21) (iZ c) h = some (iZ (ind (0 ≤ dg c ∧ dg c ≤ 3))) := by
  have hd := dg_in (c := c)
  unfold FX5_allows
  rw [tr_zo H, zsn]
  simp only [zJn]
  rw [digitOf_eq c1 c2, zsn, tr_g0 H, zsn, ht, q0, q1, if_neg (show ¬ iZ 7 = iZ 0 by decide), if_neg (show ¬ iZ 7 = iZ 1 by decide), q2, if_neg (show ¬ iZ 7 = iZ 2 by decide), q3, if_neg (show ¬ iZ 7 = iZ 3 by decide), q4, if_neg (show ¬ iZ 7 = iZ 4 by decide), q5, if_neg (show ¬ iZ 7 = iZ 5 by decide), q6, if_neg (show ¬ iZ 7 = iZ 6 by decide), q7, if_pos (show iZ 7 = iZ 7 from rfl)]
  by_cases g : 0 ≤ dg c ∧ dg c ≤ 3
  · rw [if_neg (by rw [iZ_lt (by omega) (by omega) (by omega) (by omega)]; omega), if_neg (by rw [iZ_lt (by omega) (by omega) (by omega) (by omega)]; omega), ind_t g]
    (first | rw [if_pos (Or.inr rfl)] | rw [if_pos (Or.inr trivial)])
  · rw [ind_f g]
    by_cases g1 : dg c < 0
    · rw [if_pos (by rw [iZ_lt (by omega) (by omega) (by omega) (by omega)]; omega)]
      (first | rw [if_pos (Or.inl rfl)] | rw [if_pos (Or.inl trivial)])
    · rw [if_neg (by rw [iZ_lt (by omega) (by omega) (by omega) (by omega)]; omega), if_pos (by rw [iZ_lt (by omega) (by omega) (by omega) (by omega)]; omega)]
      (first | rw [if_pos (Or.inl rfl)] | rw [if_pos (Or.inl trivial)])
theorem al12 (H : TrAt h (b + 3) t)  {c : Int} (c1 : 0 ≤ c) (c2 : c ≤ 255) (ht : t 0 = 12) : FX5_allows T (b + 3) (b + 21) (iZ c) h = some (iZ (ind (0 ≤ dg c ∧ dg c ≤ 3))) := by
  have hd := dg_in (c := c)
  unfold FX5_allows
  rw [tr_zo H, zsn]
  simp only [zJn]
  rw [digitOf_eq c1 c2, zsn, tr_g0 H, zsn, ht, q0, q1, if_neg (show ¬ iZ 12 = iZ 0 by decide), if_neg (show ¬ iZ 12 = iZ 1 by decide), q2, if_neg (show ¬ iZ 12 = iZ 2 by decide), q3, if_neg (show ¬ iZ 12 = iZ 3 by decide), q4, if_neg (show ¬ iZ 12 = iZ 4 by decide), q5, if_neg (show ¬ iZ 12 = iZ 5 by decide), q6, if_neg (show ¬ iZ 12 = iZ 6 by decide), q7, if_neg (show ¬ iZ 12 = iZ 7 by decide), q8, if_neg (show ¬ iZ 12 = iZ 8 by decide), q9, if_neg (show ¬ iZ 12 = iZ 9 by decide), q10, if_neg (show ¬ iZ 12 = iZ 10 by decide), r11, if_neg (show ¬ iZ 12 = iZ 11 by decide), r12, if_pos (show iZ 12 = iZ 12 from rfl)]
  by_cases g : 0 ≤ dg c ∧ dg c ≤ 3
  · rw [if_neg (by rw [iZ_lt (by omega) (by omega) (by omega) (by omega)]; omega), if_neg (by rw [iZ_lt (by omega) (by omega) (by omega) (by omega)]; omega), ind_t g]
    (first | rw [if_pos (Or.inr rfl)] | rw [if_pos (Or.inr trivial)])
  · rw [ind_f g]
    by_cases g1 : dg c < 0
    · rw [if_pos (by rw [iZ_lt (by omega) (by omega) (by omega) (by omega)]; omega)]
      (first | rw [if_pos (Or.inl rfl)] | rw [if_pos (Or.inl trivial)])
    · rw [if_neg (by rw [iZ_lt (by omega) (by omega) (by omega) (by omega)]; omega), if_pos (by rw [iZ_lt (by omega) (by omega) (by omega) (by omega)]; omega)]
      (first | rw [if_pos (Or.inl rfl)] | rw [if_pos (Or.inl trivial)])
theorem al8 (H : TrAt h (b + 3) t)  {c : Int} (c1 : 0 ≤ c) (c2 : c ≤ 255) (ht : t 0 = 8) : FX5_allows T (b + 3) (b + 21) (iZ c) h = some (iZ (ind (0 ≤ dg c ∧ dg c ≤ 8))) := by
  have hd := dg_in (c := c)
  unfold FX5_allows
  rw [tr_zo H, zsn]
  simp only [zJn]
  rw [digitOf_eq c1 c2, zsn, tr_g0 H, zsn, ht, q0, q1, if_neg (show ¬ iZ 8 = iZ 0 by decide), if_neg (show ¬ iZ 8 = iZ 1 by decide), q2, if_neg (show ¬ iZ 8 = iZ 2 by decide), q3, if_neg (show ¬ iZ 8 = iZ 3 by decide), q4, if_neg (show ¬ iZ 8 = iZ 4 by decide), q5, if_neg (show ¬ iZ 8 = iZ 5 by decide), q6, if_neg (show ¬ iZ 8 = iZ 6 by decide), q7, if_neg (show ¬ iZ 8 = iZ 7 by decide), q8, if_pos (show iZ 8 = iZ 8 from rfl)]
  by_cases g : 0 ≤ dg c ∧ dg c ≤ 8
  · rw [if_neg (by rw [iZ_lt (by omega) (by omega) (by omega) (by omega)]; omega), if_neg (by rw [iZ_lt (by omega) (by omega) (by omega) (by omega)]; omega), ind_t g]
    (first | rw [if_pos (Or.inr rfl)] | rw [if_pos (Or.inr trivial)])
  · rw [ind_f g]
    by_cases g1 : dg c < 0
    · rw [if_pos (by rw [iZ_lt (by omega) (by omega) (by omega) (by omega)]; omega)]
      (first | rw [if_pos (Or.inl rfl)] | rw [if_pos (Or.inl trivial)])
    · rw [if_neg (by rw [iZ_lt (by omega) (by omega) (by omega) (by omega)]; omega), if_pos (by rw [iZ_lt (by omega) (by omega) (by omega) (by omega)]; omega)]
      (first | rw [if_pos (Or.inl rfl)] | rw [if_pos (Or.inl trivial)])
theorem al13 (H : TrAt h (b + 3) t)  {c : Int} (c1 : 0 ≤ c) (c2 : c ≤ 255) (ht : t 0 = 13) : FX5_allows T (b + 3) (b + 21) (iZ c) h = some (iZ (ind (0 ≤ dg c ∧ dg c ≤ 8))) := by
  have hd := dg_in (c := c)
  unfold FX5_allows
  rw [tr_zo H, zsn]
  simp only [zJn]
  rw [digitOf_eq c1 c2, zsn, tr_g0 H, zsn, ht, q0, q1, if_neg (show ¬ iZ 13 = iZ 0 by decide), if_neg (show ¬ iZ 13 = iZ 1 by decide), q2, if_neg (show ¬ iZ 13 = iZ 2 by decide), q3, if_neg (show ¬ iZ 13 = iZ 3 by decide), q4, if_neg (show ¬ iZ 13 = iZ 4 by decide), q5, if_neg (show ¬ iZ 13 = iZ 5 by decide), q6, if_neg (show ¬ iZ 13 = iZ 6 by decide), q7, if_neg (show ¬ iZ 13 = iZ 7 by decide), q8, if_neg (show ¬ iZ 13 = iZ 8 by decide), q9, if_neg (show ¬ iZ 13 = iZ 9 by decide), q10, if_neg (show ¬ iZ 13 = iZ 10 by decide), r11, if_neg (show ¬ iZ 13 = iZ 11 by decide), r12, if_neg (show ¬ iZ 13 = iZ 12 by decide), r13, if_pos (show iZ 13 = iZ 13 from rfl)]
  by_cases g : 0 ≤ dg c ∧ dg c ≤ 8
  · rw [if_neg (by rw [iZ_lt (by omega) (by omega) (by omega) (by omega)]; omega), if_neg (by rw [iZ_lt (by omega) (by omega) (by omega) (by omega)]; omega), ind_t g]
    (first | rw [if_pos (Or.inr rfl)] | rw [if_pos (Or.inr trivial)])
  · rw [ind_f g]
    by_cases g1 : dg c < 0
    · rw [if_pos (by rw [iZ_lt (by omega) (by omega) (by omega) (by omega)]; omega)]
      (first | rw [if_pos (Or.inl rfl)] | rw [if_pos (Or.inl trivial)])
    · rw [if_neg (by rw [iZ_lt (by omega) (by omega) (by omega) (by omega)]; omega), if_pos (by rw [iZ_lt (by omega) (by omega) (by omega) (by omega)]; omega)]
      (first | rw [if_pos (Or.inl rfl)] | rw [if_pos (Or.inl trivial)])
theorem al9 (H : TrAt h (b + 3) t)  {c : Int} (c1 : 0 ≤ c) (c2 : c ≤ 255) (ht : t 0 = 9) : FX5_allows T (b + 3) (b + 21) (iZ c) h = some (iZ (ind (1 ≤ dg c ∧ dg c ≤ 3))) := by
  have hd := dg_in (c := c)
  unfold FX5_allows
  rw [tr_zo H, zsn]
  simp only [zJn]
  rw [digitOf_eq c1 c2, zsn, tr_g0 H, zsn, ht, q0, q1, if_neg (show ¬ iZ 9 = iZ 0 by decide), if_neg (show ¬ iZ 9 = iZ 1 by decide), q2, if_neg (show ¬ iZ 9 = iZ 2 by decide), q3, if_neg (show ¬ iZ 9 = iZ 3 by decide), q4, if_neg (show ¬ iZ 9 = iZ 4 by decide), q5, if_neg (show ¬ iZ 9 = iZ 5 by decide), q6, if_neg (show ¬ iZ 9 = iZ 6 by decide), q7, if_neg (show ¬ iZ 9 = iZ 7 by decide), q8, if_neg (show ¬ iZ 9 = iZ 8 by decide), q9, if_pos (show iZ 9 = iZ 9 from rfl)]
  by_cases g : 1 ≤ dg c ∧ dg c ≤ 3
  · rw [if_neg (by rw [iZ_lt (by omega) (by omega) (by omega) (by omega)]; omega), if_neg (by rw [iZ_lt (by omega) (by omega) (by omega) (by omega)]; omega), ind_t g]
    (first | rw [if_pos (Or.inr rfl)] | rw [if_pos (Or.inr trivial)])
  · rw [ind_f g]
    by_cases g1 : dg c < 1
    · rw [if_pos (by rw [iZ_lt (by omega) (by omega) (by omega) (by omega)]; omega)]
      (first | rw [if_pos (Or.inl rfl)] | rw [if_pos (Or.inl trivial)])
    · rw [if_neg (by rw [iZ_lt (by omega) (by omega) (by omega) (by omega)]; omega), if_pos (by rw [iZ_lt (by omega) (by omega) (by omega) (by omega)]; omega)]
      (first | rw [if_pos (Or.inl rfl)] | rw [if_pos (Or.inl trivial)])
theorem al10 (H : TrAt h (b + 3) t)  {c : Int} (c1 : 0 ≤ c) (c2 : c ≤ 255) (ht : t 0 = 10) : FX5_allows T (b + 3) (b + 21) (iZ c) h = some (iZ (ind (0 ≤ dg c))) := by
  have hd := dg_in (c := c)
  unfold FX5_allows
  rw [tr_zo H, zsn]
  simp only [zJn]
  rw [digitOf_eq c1 c2, zsn, tr_g0 H, zsn, ht, q0, q1, if_neg (show ¬ iZ 10 = iZ 0 by decide), if_neg (show ¬ iZ 10 = iZ 1 by decide), q2, if_neg (show ¬ iZ 10 = iZ 2 by decide), q3, if_neg (show ¬ iZ 10 = iZ 3 by decide), q4, if_neg (show ¬ iZ 10 = iZ 4 by decide), q5, if_neg (show ¬ iZ 10 = iZ 5 by decide), q6, if_neg (show ¬ iZ 10 = iZ 6 by decide), q7, if_neg (show ¬ iZ 10 = iZ 7 by decide), q8, if_neg (show ¬ iZ 10 = iZ 8 by decide), q9, if_neg (show ¬ iZ 10 = iZ 9 by decide), q10, if_pos (show iZ 10 = iZ 10 from rfl)]
  by_cases g : 0 ≤ dg c
  · rw [if_neg (by rw [iZ_lt (by omega) (by omega) (by omega) (by omega)]; omega), ind_t g]
    (first | rw [if_pos (Or.inr rfl)] | rw [if_pos (Or.inr trivial)])
  · rw [if_pos (by rw [iZ_lt (by omega) (by omega) (by omega) (by omega)]; omega), ind_f g]
    (first | rw [if_pos (Or.inl rfl)] | rw [if_pos (Or.inl trivial)])
theorem al11 (H : TrAt h (b + 3) t)  {c : Int} (c1 : 0 ≤ c) (c2 : c ≤ 255) (ht : t 0 = 11) : FX5_allows T (b + 3) (b + 21) (iZ c) h = some (iZ (ind (0 ≤ dg c ∧ dg c < 2))) := by
  have hd := dg_in (c := c)
  unfold FX5_allows
  rw [tr_zo H, zsn]
  simp only [zJn]
  rw [digitOf_eq c1 c2, zsn, tr_g0 H, zsn, ht, q0, q1, if_neg (show ¬ iZ 11 = iZ 0 by decide), if_neg (show ¬ iZ 11 = iZ 1 by decide), q2, if_neg (show ¬ iZ 11 = iZ 2 by decide), q3, if_neg (show ¬ iZ 11 = iZ 3 by decide), q4, if_neg (show ¬ iZ 11 = iZ 4 by decide), q5, if_neg (show ¬ iZ 11 = iZ 5 by decide), q6, if_neg (show ¬ iZ 11 = iZ 6 by decide), q7, if_neg (show ¬ iZ 11 = iZ 7 by decide), q8, if_neg (show ¬ iZ 11 = iZ 8 by decide), q9, if_neg (show ¬ iZ 11 = iZ 9 by decide), q10, if_neg (show ¬ iZ 11 = iZ 10 by decide), r11, if_pos (show iZ 11 = iZ 11 from rfl)]
  by_cases g : 0 ≤ dg c ∧ dg c < 2
  · rw [isLet_t g.1 g.2, zsn, ind_t g]
    (first | rw [if_pos (Or.inr rfl)] | rw [if_pos (Or.inr trivial)])
  · rw [isLet_f (by omega) (by omega) g, zsn, ind_f g]
    (first | rw [if_pos (Or.inl rfl)] | rw [if_pos (Or.inl trivial)])
theorem al14 (H : TrAt h (b + 3) t)  {c : Int} (c1 : 0 ≤ c) (c2 : c ≤ 255) (ht : t 0 = 14) : FX5_allows T (b + 3) (b + 21) (iZ c) h = some (iZ (ind (dg c = 0 ∨ dg c = 1))) := by
  have hd := dg_in (c := c)
  unfold FX5_allows
  rw [tr_zo H, zsn]
  simp only [zJn]
  rw [digitOf_eq c1 c2, zsn, tr_g0 H, zsn, ht, q0, q1, if_neg (show ¬ iZ 14 = iZ 0 by decide), if_neg (show ¬ iZ 14 = iZ 1 by decide), q2, if_neg (show ¬ iZ 14 = iZ 2 by decide), q3, if_neg (show ¬ iZ 14 = iZ 3 by decide), q4, if_neg (show ¬ iZ 14 = iZ 4 by decide), q5, if_neg (show ¬ iZ 14 = iZ 5 by decide), q6, if_neg (show ¬ iZ 14 = iZ 6 by decide), q7, if_neg (show ¬ iZ 14 = iZ 7 by decide), q8, if_neg (show ¬ iZ 14 = iZ 8 by decide), q9, if_neg (show ¬ iZ 14 = iZ 9 by decide), q10, if_neg (show ¬ iZ 14 = iZ 10 by decide), r11, if_neg (show ¬ iZ 14 = iZ 11 by decide), r12, if_neg (show ¬ iZ 14 = iZ 12 by decide), r13, if_neg (show ¬ iZ 14 = iZ 13 by decide)]
  by_cases g1 : dg c = 0
  · rw [if_pos (by rw [iZ_eq (by omega) (by omega) (by omega) (by omega)]; omega), ind_t (Or.inl g1)]
    (first | rw [if_pos (Or.inr rfl)] | rw [if_pos (Or.inr trivial)])
  rw [if_neg (by rw [iZ_eq (by omega) (by omega) (by omega) (by omega)]; omega)]
  by_cases g2 : dg c = 1
  · rw [if_pos (by rw [iZ_eq (by omega) (by omega) (by omega) (by omega)]; omega), ind_t (Or.inr g2)]
    (first | rw [if_pos (Or.inr rfl)] | rw [if_pos (Or.inr trivial)])
  · rw [if_neg (by rw [iZ_eq (by omega) (by omega) (by omega) (by omega)]; omega), ind_f (by omega)]
    (first | rw [if_pos (Or.inl rfl)] | rw [if_pos (Or.inl trivial)])
end Tr
