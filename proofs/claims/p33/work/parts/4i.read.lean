/-! CrossedSheet$Reading. What it holds, row 0: words 0, marks 1, signs 5, last line 6, last place 7, last sign 8; row 1: the cells' words, row 2: the signs, row 3: where words begin -/
def RdAt (T : zT) (h : zH) (R : Nat) (w : Nat → Nat → Int) : Prop := h R = some (.inr (2, [.int (iZ (w 0 0)), .int (iZ (w 0 1)), .ref (R + 1), .ref (R + 3), .ref (R + 5), .int (iZ (w 0 5)), .int (iZ (w 0 6)), .int (iZ (w 0 7)), .int (iZ (w 0 8))])) ∧ ∀ r, 1 ≤ r → r ≤ 3 → Num T h (R + (2 * r - 1)) 81 (w r)
def RdOk (w : Nat → Nat → Int) (n : Int) : Prop := 0 ≤ w 0 0 ∧ w 0 0 ≤ n ∧ 0 ≤ w 0 1 ∧ w 0 1 ≤ n ∧ 0 ≤ w 0 5 ∧ w 0 5 ≤ n ∧ -99 ≤ w 0 6 ∧ w 0 6 ≤ 99 ∧ -99 ≤ w 0 7 ∧ w 0 7 ≤ 99 ∧ -99 ≤ w 0 8 ∧ w 0 8 ≤ 99 ∧ (w 0 0 = 0 → w 0 5 = 0) ∧ (w 0 0 ≠ 0 → 1 ≤ w 0 5)
/-- one sign more: where it goes, what is kept -/
def wgo1 (w : Nat → Nat → Int) (l p g : Int) : Nat → Nat → Int := if w 0 0 ≠ 0 ∧ l ≠ w 0 6 ∧ w 0 8 = 26 then dput w 0 5 (w 0 5 - 1) else if w 0 0 ≠ 0 ∧ l = w 0 6 ∧ p - w 0 7 - 1 < g then w else dput (dput w 3 (w 0 0).toNat (w 0 5)) 0 0 (w 0 0 + 1)
def wgo (w : Nat → Nat → Int) (l p g : Int) : Nat → Nat → Int := dput (dput (wgo1 w l p g) 0 6 l) 0 7 p
def wtk (w : Nat → Nat → Int) (s : Int) : Nat → Nat → Int := dput (dput (dput (dput w 2 (w 0 5).toNat s) 0 5 (w 0 5 + 1)) 0 1 (w 0 1 + 1)) 0 8 s
def wst (w : Nat → Nat → Int) (c : Nat) (l p g s : Int) : Nat → Nat → Int := dput (wtk (wgo w l p g) s) 1 c (wtk (wgo w l p g) s 0 0 - 1)
section Ra
variable {T : zT} {h h' : zH} {R : Nat} {w : Nat → Nat → Int}
def offR (R : Nat) (h h' : zH) : Prop := ∀ q, q < R ∨ R + 6 < q → h' q = h q
theorem offR.refl (R : Nat) (h : zH) : offR R h h := fun _ _ => rfl
theorem offR.trans {h1 h2 : zH} (a : offR R h h1) (c : offR R h1 h2) : offR R h h2 := fun q hq => (c q hq).trans (a q hq)
theorem RdAt.kept (hS : RdAt T h R w) (e : ∀ q, R ≤ q → q ≤ R + 6 → h' q = h q) : RdAt T h' R w :=
  ⟨(e R (by omega) (by omega)).trans hS.1, fun r h1 h8 => (hS.2 r h1 h8).kept (e _ (by omega) (by omega)) (e _ (by omega) (by omega))⟩
theorem RdAt.row (hS : RdAt T h R w) {r : Nat} (h1 : 1 ≤ r) (h3 : r ≤ 3) {f : Nat → Int} (hN : Num T h' (R + (2 * r - 1)) 81 f) (e : ∀ q, q ≠ R + (2 * r - 1) + 1 → h' q = h q) : RdAt T h' R (rowup w r f) := by
  refine ⟨?_, fun i g1 g8 => ?_⟩
  · rw [rowup_ne w (i := 0) f (by omega)]
    exact (e R (by omega)).trans hS.1
  · by_cases hi : i = r
    · subst hi
      rw [rowup_self]
      exact hN
    · rw [rowup_ne w f hi]
      exact (hS.2 i g1 g8).kept (e _ (by omega)) (e _ (by omega))
theorem rd_put (hS : RdAt T h R w) {r : Nat} (h1 : 1 ≤ r) (h3 : r ≤ 3) {i v : Int} (g1 : 0 ≤ i) (g2 : i < 81) : ∃ h', FX1_put T (R + (2 * r - 1)) (iZ i) (iZ v) h = some h' ∧ RdAt T h' R (dput w r i.toNat v) ∧ offR R h h' := by
  obtain ⟨h', e1, e2, e3⟩ := put_in (v := v) (hS.2 r h1 h3) (by omega) g1 (by omega)
  exact ⟨h', e1, hS.row h1 h3 e2 e3, fun q hq => e3 q (by omega)⟩
theorem rd_set (hS : RdAt T h R w) {k : Nat} (hk : k = 0 ∨ k = 1 ∨ k = 5 ∨ k = 6 ∨ k = 7 ∨ k = 8) (v : Int) : ∃ h', zpv h R 2 k (.int (iZ v)) = some h' ∧ RdAt T h' R (dput w 0 k v) ∧ offR R h h' := by
  have rest : ∀ x : va_E, ∀ r, 1 ≤ r → r ≤ 3 → Num T (va_up h R (some x)) (R + (2 * r - 1)) 81 (dput w 0 k v r) := fun x r g1 g8 => by
    rw [dput_ne (by omega)]
    exact (hS.2 r g1 g8).kept (va_up_ne _ _ (by omega)) (va_up_ne _ _ (by omega))
  rcases hk with rfl | rfl | rfl | rfl | rfl | rfl
  · exact ⟨_, by unfold zpv; rw [zo_of hS.1]; rfl, ⟨va_up_self _ _ _, rest _⟩, fun q hq => va_up_ne _ _ (by omega)⟩
  · exact ⟨_, by unfold zpv; rw [zo_of hS.1]; rfl, ⟨va_up_self _ _ _, rest _⟩, fun q hq => va_up_ne _ _ (by omega)⟩
  · exact ⟨_, by unfold zpv; rw [zo_of hS.1]; rfl, ⟨va_up_self _ _ _, rest _⟩, fun q hq => va_up_ne _ _ (by omega)⟩
  · exact ⟨_, by unfold zpv; rw [zo_of hS.1]; rfl, ⟨va_up_self _ _ _, rest _⟩, fun q hq => va_up_ne _ _ (by omega)⟩
  · exact ⟨_, by unfold zpv; rw [zo_of hS.1]; rfl, ⟨va_up_self _ _ _, rest _⟩, fun q hq => va_up_ne _ _ (by omega)⟩
  · exact ⟨_, by unfold zpv; rw [zo_of hS.1]; rfl, ⟨va_up_self _ _ _, rest _⟩, fun q hq => va_up_ne _ _ (by omega)⟩
theorem rd_zo (hS : RdAt T h R w) : zo h R 2 = some [.int (iZ (w 0 0)), .int (iZ (w 0 1)), .ref (R + 1), .ref (R + 3), .ref (R + 5), .int (iZ (w 0 5)), .int (iZ (w 0 6)), .int (iZ (w 0 7)), .int (iZ (w 0 8))] := zo_of hS.1
theorem rd_g0 (hS : RdAt T h R w) : zgi h R 2 0 = some (iZ (w 0 0)) := by unfold zgi; rw [rd_zo hS]; rfl
theorem rd_g1 (hS : RdAt T h R w) : zgi h R 2 1 = some (iZ (w 0 1)) := by unfold zgi; rw [rd_zo hS]; rfl
theorem rd_g5 (hS : RdAt T h R w) : zgi h R 2 5 = some (iZ (w 0 5)) := by unfold zgi; rw [rd_zo hS]; rfl
theorem rd_g6 (hS : RdAt T h R w) : zgi h R 2 6 = some (iZ (w 0 6)) := by unfold zgi; rw [rd_zo hS]; rfl
theorem rd_g7 (hS : RdAt T h R w) : zgi h R 2 7 = some (iZ (w 0 7)) := by unfold zgi; rw [rd_zo hS]; rfl
theorem rd_g8 (hS : RdAt T h R w) : zgi h R 2 8 = some (iZ (w 0 8)) := by unfold zgi; rw [rd_zo hS]; rfl
theorem rd_r1 (hS : RdAt T h R w) : zgr h R 2 2 = some (R + 1) := by unfold zgr; rw [rd_zo hS]; rfl
theorem rd_r2 (hS : RdAt T h R w) : zgr h R 2 3 = some (R + 3) := by unfold zgr; rw [rd_zo hS]; rfl
theorem rd_r3 (hS : RdAt T h R w) : zgr h R 2 4 = some (R + 5) := by unfold zgr; rw [rd_zo hS]; rfl
theorem goTo_eq (hS : RdAt T h R w) (hW : RdOk w 80) {l p g : Int} (l1 : 0 ≤ l) (l2 : l < 9) (p1 : 0 ≤ p) (p2 : p < 9) (g1 : 0 ≤ g) (g2 : g < 10) : ∃ h', FX2_goTo T R (iZ l) (iZ p) (iZ g) h = some h' ∧ RdAt T h' R (wgo w l p g) ∧ offR R h h' := by
  obtain ⟨b1, b2, b3, b4, b5, b6, b7, b8, b9, b10, b11, b12, b13, b14⟩ := hW
  have fin : ∀ (g1 : zH) (w1 : Nat → Nat → Int), RdAt T g1 R w1 → offR R h g1 → ∃ h', ((zpv g1 R 2 6 (.int (iZ l))).bind fun h11 => (zpv h11 R 2 7 (.int (iZ p))).bind fun h12 => some h12) = some h' ∧ RdAt T h' R (dput (dput w1 0 6 l) 0 7 p) ∧ offR R h h' := by
    intro g1 w1 s1 f1
    obtain ⟨g2, e2, s2, f2⟩ := rd_set s1 (k := 6) (by omega) l
    obtain ⟨g3, e3, s3, f3⟩ := rd_set s2 (k := 7) (by omega) p
    exact ⟨g3, by rw [e2, zsn, e3, zsn], s3, (f1.trans f2).trans f3⟩
  unfold FX2_goTo wgo wgo1
  by_cases c0 : w 0 0 = 0
  · obtain ⟨g2, e2, s2, f2⟩ := rd_put (v := w 0 5) hS (r := 3) (i := w 0 0) (by omega) (by omega) (by omega) (by omega)
    obtain ⟨g3, e3, s3, f3⟩ := rd_set s2 (k := 0) (by omega) (w 0 0 + 1)
    obtain ⟨g4, e4, s4, f4⟩ := fin g3 _ s3 (f2.trans f3)
    refine ⟨g4, ?_, ?_, f4⟩
    · have z0 : zgi g2 R 2 0 = some (iZ (w 0 0)) := by have z := rd_g0 s2; rw [dput_ne (by omega)] at z; exact z
      simp (disch := omega) only [rd_zo hS, zsn, zJ, rd_g0 hS, q0, q1, iZ_eq, if_pos, if_neg, if_true, if_false, rd_r3 hS, rd_g5 hS, e2, z0, iZ_add, e3, e4]
    · rw [if_neg (by omega), if_neg (by omega)]
      exact s4
  · by_cases c1 : l = w 0 6
    · by_cases c2 : p - w 0 7 - 1 < g
      · obtain ⟨g4, e4, s4, f4⟩ := fin h _ hS (offR.refl R h)
        refine ⟨g4, ?_, ?_, f4⟩
        · simp (disch := omega) only [rd_zo hS, zsn, zJ, rd_g0 hS, q0, q1, iZ_eq, if_pos, if_neg, if_true, if_false, rd_g6 hS, rd_g7 hS, iZ_sub, iZ_lt, e4]
        · rw [if_neg (by omega), if_pos (by omega)]
          exact s4
      · obtain ⟨g2, e2, s2, f2⟩ := rd_put (v := w 0 5) hS (r := 3) (i := w 0 0) (by omega) (by omega) (by omega) (by omega)
        obtain ⟨g3, e3, s3, f3⟩ := rd_set s2 (k := 0) (by omega) (w 0 0 + 1)
        obtain ⟨g4, e4, s4, f4⟩ := fin g3 _ s3 (f2.trans f3)
        refine ⟨g4, ?_, ?_, f4⟩
        · have z0 : zgi g2 R 2 0 = some (iZ (w 0 0)) := by have z := rd_g0 s2; rw [dput_ne (by omega)] at z; exact z
          simp (disch := omega) only [rd_zo hS, zsn, zJ, rd_g0 hS, q0, q1, iZ_eq, if_pos, if_neg, if_true, if_false, rd_g6 hS, rd_g7 hS, iZ_sub, iZ_lt, rd_r3 hS, rd_g5 hS, e2, z0, iZ_add, e3, e4]
        · rw [if_neg (by omega), if_neg (by omega)]
          exact s4
    · by_cases c2 : w 0 8 = 26
      · obtain ⟨g3, e3, s3, f3⟩ := rd_set hS (k := 5) (by omega) (w 0 5 - 1)
        obtain ⟨g4, e4, s4, f4⟩ := fin g3 _ s3 f3
        refine ⟨g4, ?_, ?_, f4⟩
        · simp (disch := omega) only [rd_zo hS, zsn, zJ, rd_g0 hS, q0, q1, q26, iZ_eq, if_pos, if_neg, if_true, if_false, rd_g6 hS, rd_g8 hS, rd_g5 hS, iZ_sub, e3, e4]
        · rw [if_pos (by omega)]
          exact s4
      · obtain ⟨g2, e2, s2, f2⟩ := rd_put (v := w 0 5) hS (r := 3) (i := w 0 0) (by omega) (by omega) (by omega) (by omega)
        obtain ⟨g3, e3, s3, f3⟩ := rd_set s2 (k := 0) (by omega) (w 0 0 + 1)
        obtain ⟨g4, e4, s4, f4⟩ := fin g3 _ s3 (f2.trans f3)
        refine ⟨g4, ?_, ?_, f4⟩
        · have z0 : zgi g2 R 2 0 = some (iZ (w 0 0)) := by have z := rd_g0 s2; rw [dput_ne (by omega)] at z; exact z
          simp (disch := omega) only [rd_zo hS, zsn, zJ, rd_g0 hS, q0, q1, q26, iZ_eq, if_pos, if_neg, if_true, if_false, rd_g6 hS, rd_g8 hS, rd_r3 hS, rd_g5 hS, e2, z0, iZ_add, e3, e4]
        · rw [if_neg (by omega), if_neg (by omega)]
          exact s4
theorem takeSign_eq (hS : RdAt T h R w) (h5 : 0 ≤ w 0 5) (h6 : w 0 5 < 81) {s : Int} : ∃ h', FX2_takeSign T R (iZ s) h = some h' ∧ RdAt T h' R (wtk w s) ∧ offR R h h' := by
  obtain ⟨g1, e1, s1, f1⟩ := rd_put (v := s) hS (r := 2) (i := w 0 5) (by omega) (by omega) h5 h6
  obtain ⟨g2, e2, s2, f2⟩ := rd_set s1 (k := 5) (by omega) (w 0 5 + 1)
  obtain ⟨g3, e3, s3, f3⟩ := rd_set s2 (k := 1) (by omega) (w 0 1 + 1)
  obtain ⟨g4, e4, s4, f4⟩ := rd_set s3 (k := 8) (by omega) s
  refine ⟨g4, ?_, s4, ((f1.trans f2).trans f3).trans f4⟩
  have z5 : zgi g1 R 2 5 = some (iZ (w 0 5)) := by have z := rd_g5 s1; rw [dput_ne (by omega)] at z; exact z
  have z1 : zgi g2 R 2 1 = some (iZ (w 0 1)) := by have z := rd_g1 s2; rw [dput_self, upZ_ne _ _ (by omega), dput_ne (by omega)] at z; exact z
  unfold FX2_takeSign
  simp only [rd_zo hS, zsn, rd_r2 hS, rd_g5 hS, e1, z5, q1, iZ_add, e2, z1, e3, e4]
end Ra
