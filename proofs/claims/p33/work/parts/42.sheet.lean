/-! CrossedSheet$Sheet. What it holds: row 0: width, height, margin, gap; rows 1 to 8: its Numbers in the order of its fields (inks, slants, ways of the letters; counts of the cells; signs, inks, slants, decisions of the marks) -/
def sz (r : Nat) : Nat := if r ≤ 3 then 2 else if r = 4 then 81 else 162
def ShAt (T : zT) (h : zH) (b : Nat) (d : Nat → Nat → Int) : Prop := h b = some (.inr (3, [.int (iZ (d 0 0)), .int (iZ (d 0 1)), .int (iZ (d 0 2)), .int (iZ (d 0 3)), .ref (b + 1), .ref (b + 3), .ref (b + 5), .ref (b + 7), .ref (b + 9), .ref (b + 11), .ref (b + 13), .ref (b + 15)])) ∧ ∀ r, 1 ≤ r → r ≤ 8 → Num T h (b + (2 * r - 1)) (sz r) (d r)
def rowup (d : Nat → Nat → Int) (r : Nat) (f : Nat → Int) : Nat → Nat → Int := fun i => if i = r then f else d i
theorem rowup_self (d : Nat → Nat → Int) (r : Nat) (f : Nat → Int) : rowup d r f r = f := if_pos rfl
theorem rowup_ne (d : Nat → Nat → Int) {r i : Nat} (f : Nat → Int) (h : i ≠ r) : rowup d r f i = d i := if_neg h
theorem upZ_self (f : Nat → Int) (k : Nat) (v : Int) : upZ f k v k = v := if_pos rfl
theorem upZ_ne (f : Nat → Int) {k j : Nat} (v : Int) (h : j ≠ k) : upZ f k v j = f j := if_neg h
section Sh
variable {T : zT} {h h' : zH} {b : Nat} {d : Nat → Nat → Int}
theorem ShAt.kept (hS : ShAt T h b d) (e : ∀ q, b ≤ q → q ≤ b + 16 → h' q = h q) : ShAt T h' b d :=
  ⟨(e b (by omega) (by omega)).trans hS.1, fun r h1 h8 => (hS.2 r h1 h8).kept (e _ (by omega) (by omega)) (e _ (by omega) (by omega))⟩
theorem ShAt.row (hS : ShAt T h b d) {r : Nat} (h1 : 1 ≤ r) (h8 : r ≤ 8) {f : Nat → Int} (hN : Num T h' (b + (2 * r - 1)) (sz r) f) (e : ∀ q, q ≠ b + (2 * r - 1) + 1 → h' q = h q) : ShAt T h' b (rowup d r f) := by
  refine ⟨?_, fun i g1 g8 => ?_⟩
  · rw [rowup_ne d (i := 0) f (by omega)]
    exact (e b (by omega)).trans hS.1
  · by_cases hi : i = r
    · subst hi
      rw [rowup_self]
      exact hN
    · rw [rowup_ne d f hi]
      exact (hS.2 i g1 g8).kept (e _ (by omega)) (e _ (by omega))
theorem ShAt.put0 (hS : ShAt T h b d) {k : Nat} (hk : k < 4) (v : Int) : ∃ h', zpv h b 3 k (.int (iZ v)) = some h' ∧ ShAt T h' b (rowup d 0 (upZ (d 0) k v)) ∧ ∀ q, q ≠ b → h' q = h q := by
  have rest : ∀ x : va_E, ∀ r, 1 ≤ r → r ≤ 8 → Num T (va_up h b (some x)) (b + (2 * r - 1)) (sz r) (rowup d 0 (upZ (d 0) k v) r) := fun x r g1 g8 => by
    rw [rowup_ne d _ (by omega)]
    exact (hS.2 r g1 g8).kept (va_up_ne _ _ (by omega)) (va_up_ne _ _ (by omega))
  rcases (show k = 0 ∨ k = 1 ∨ k = 2 ∨ k = 3 by omega) with rfl | rfl | rfl | rfl
  · exact ⟨_, by unfold zpv; rw [zo_of hS.1]; rfl, ⟨va_up_self _ _ _, rest _⟩, fun q hq => va_up_ne _ _ hq⟩
  · exact ⟨_, by unfold zpv; rw [zo_of hS.1]; rfl, ⟨va_up_self _ _ _, rest _⟩, fun q hq => va_up_ne _ _ hq⟩
  · exact ⟨_, by unfold zpv; rw [zo_of hS.1]; rfl, ⟨va_up_self _ _ _, rest _⟩, fun q hq => va_up_ne _ _ hq⟩
  · exact ⟨_, by unfold zpv; rw [zo_of hS.1]; rfl, ⟨va_up_self _ _ _, rest _⟩, fun q hq => va_up_ne _ _ hq⟩
theorem sh_zo (hS : ShAt T h b d) : zo h b 3 = some [.int (iZ (d 0 0)), .int (iZ (d 0 1)), .int (iZ (d 0 2)), .int (iZ (d 0 3)), .ref (b + 1), .ref (b + 3), .ref (b + 5), .ref (b + 7), .ref (b + 9), .ref (b + 11), .ref (b + 13), .ref (b + 15)] := zo_of hS.1
theorem sh_g0 (hS : ShAt T h b d) : zgi h b 3 0 = some (iZ (d 0 0)) := by unfold zgi; rw [sh_zo hS]; rfl
theorem sh_g1 (hS : ShAt T h b d) : zgi h b 3 1 = some (iZ (d 0 1)) := by unfold zgi; rw [sh_zo hS]; rfl
theorem sh_g2 (hS : ShAt T h b d) : zgi h b 3 2 = some (iZ (d 0 2)) := by unfold zgi; rw [sh_zo hS]; rfl
theorem sh_g3 (hS : ShAt T h b d) : zgi h b 3 3 = some (iZ (d 0 3)) := by unfold zgi; rw [sh_zo hS]; rfl
theorem sh_r1 (hS : ShAt T h b d) : zgr h b 3 4 = some (b + 1) := by unfold zgr; rw [sh_zo hS]; rfl
theorem sh_r2 (hS : ShAt T h b d) : zgr h b 3 5 = some (b + 3) := by unfold zgr; rw [sh_zo hS]; rfl
theorem sh_r3 (hS : ShAt T h b d) : zgr h b 3 6 = some (b + 5) := by unfold zgr; rw [sh_zo hS]; rfl
theorem sh_r4 (hS : ShAt T h b d) : zgr h b 3 7 = some (b + 7) := by unfold zgr; rw [sh_zo hS]; rfl
theorem sh_r5 (hS : ShAt T h b d) : zgr h b 3 8 = some (b + 9) := by unfold zgr; rw [sh_zo hS]; rfl
theorem sh_r6 (hS : ShAt T h b d) : zgr h b 3 9 = some (b + 11) := by unfold zgr; rw [sh_zo hS]; rfl
theorem sh_r7 (hS : ShAt T h b d) : zgr h b 3 10 = some (b + 13) := by unfold zgr; rw [sh_zo hS]; rfl
theorem sh_r8 (hS : ShAt T h b d) : zgr h b 3 11 = some (b + 15) := by unfold zgr; rw [sh_zo hS]; rfl
theorem sh_n1 (hS : ShAt T h b d) : Num T h (b + 1) 2 (d 1) := hS.2 1 (by omega) (by omega)
theorem sh_n2 (hS : ShAt T h b d) : Num T h (b + 3) 2 (d 2) := hS.2 2 (by omega) (by omega)
theorem sh_n3 (hS : ShAt T h b d) : Num T h (b + 5) 2 (d 3) := hS.2 3 (by omega) (by omega)
theorem sh_n4 (hS : ShAt T h b d) : Num T h (b + 7) 81 (d 4) := hS.2 4 (by omega) (by omega)
theorem sh_n5 (hS : ShAt T h b d) : Num T h (b + 9) 162 (d 5) := hS.2 5 (by omega) (by omega)
theorem sh_n6 (hS : ShAt T h b d) : Num T h (b + 11) 162 (d 6) := hS.2 6 (by omega) (by omega)
theorem sh_n7 (hS : ShAt T h b d) : Num T h (b + 13) 162 (d 7) := hS.2 7 (by omega) (by omega)
theorem sh_n8 (hS : ShAt T h b d) : Num T h (b + 15) 162 (d 8) := hS.2 8 (by omega) (by omega)
theorem sh_put (hS : ShAt T h b d) {r : Nat} (h1 : 1 ≤ r) (h8 : r ≤ 8) {i v : Int} (g1 : 0 ≤ i) (g2 : i < sz r) : ∃ h', FX1_put T (b + (2 * r - 1)) (iZ i) (iZ v) h = some h' ∧ ShAt T h' b (rowup d r (upZ (d r) i.toNat v)) ∧ ∀ q, q ≠ b + 2 * r → h' q = h q := by
  have hs : sz r ≤ 162 := by unfold sz; split <;> (try split) <;> omega
  obtain ⟨h', e1, e2, e3⟩ := put_in (v := v) (hS.2 r h1 h8) (by omega) g1 g2
  exact ⟨h', e1, hS.row h1 h8 e2 e3, fun q hq => e3 q (by omega)⟩
/-- a cell of the sheet; how many marks it has; a mark's place -/
def inG (d : Nat → Nat → Int) (x y : Int) : Prop := 0 ≤ x ∧ x < d 0 0 ∧ 0 ≤ y ∧ y < d 0 1
def cn (d : Nat → Nat → Int) (x y : Int) : Int := d 4 (9 * x + y).toNat
def pl (x y i : Int) : Nat := (2 * (9 * x + y) + i).toNat
def mkOk (d : Nat → Nat → Int) (p : Nat) : Prop := 0 ≤ d 5 p ∧ d 5 p ≤ 26 ∧ 0 ≤ d 6 p ∧ d 6 p ≤ 3 ∧ 0 ≤ d 7 p ∧ d 7 p ≤ 8 ∧ (d 8 p = -9 ∨ d 8 p = 0 ∨ d 8 p = 1)
def lwOk (d : Nat → Nat → Int) (k : Nat) : Prop := 0 ≤ d 1 k ∧ d 1 k ≤ 3 ∧ 0 ≤ d 2 k ∧ d 2 k ≤ 8 ∧ 0 ≤ d 3 k ∧ d 3 k ≤ 1
def OkD (d : Nat → Nat → Int) : Prop := (1 ≤ d 0 0 ∧ d 0 0 ≤ 9 ∧ 1 ≤ d 0 1 ∧ d 0 1 ≤ 9 ∧ 0 ≤ d 0 2 ∧ d 0 2 ≤ 9 ∧ 1 ≤ d 0 3 ∧ d 0 3 ≤ 3) ∧ lwOk d 0 ∧ lwOk d 1 ∧ ∀ x y, inG d x y → 0 ≤ cn d x y ∧ cn d x y ≤ 2 ∧ (∀ i, 0 ≤ i → i < cn d x y → mkOk d (pl x y i)) ∧ (cn d x y = 2 → d 8 (pl x y 0) = -9 ∨ d 8 (pl x y 1) = -9 ∨ d 8 (pl x y 0) ≠ d 8 (pl x y 1))
theorem hasCell_t (hS : ShAt T h b d) (hO : OkD d) {x y : Int} (g : inG d x y) : FX3_hasCell T b (iZ x) (iZ y) h = some (iZ 1) := by
  obtain ⟨⟨o1, o2, o3, o4, -⟩, -⟩ := hO
  obtain ⟨g1, g2, g3, g4⟩ := g
  unfold FX3_hasCell
  simp (disch := omega) only [sh_zo hS, zsb, zJ, sh_g0 hS, sh_g1 hS, q0, q1, iZ_lt, iZ_le, iZ_eq, if_pos, if_neg, or_true, true_or, if_true]
theorem hasCell_f (hS : ShAt T h b d) (hO : OkD d) {x y : Int} (x1 : -2147483648 ≤ x) (x2 : x < 2147483648) (y1 : -2147483648 ≤ y) (y2 : y < 2147483648) (g : ¬ inG d x y) : FX3_hasCell T b (iZ x) (iZ y) h = some (iZ 0) := by
  obtain ⟨⟨o1, o2, o3, o4, -⟩, -⟩ := hO
  unfold inG at g
  unfold FX3_hasCell
  simp (disch := omega) only [sh_zo hS, zsb, zJ, sh_g0 hS, sh_g1 hS, q0, q1, iZ_lt, iZ_le, iZ_eq, if_pos, if_neg, or_true, true_or, if_true]
  by_cases c1 : x < 0
  · rw [if_pos c1]
  rw [if_neg c1]
  by_cases c2 : d 0 0 ≤ x
  · rw [if_pos c2]
  rw [if_neg c2]
  by_cases c3 : y < 0
  · rw [if_pos c3]
  rw [if_neg c3]
theorem cellOf_eq (x y : Int) : FX6_cellOf T (iZ x) (iZ y) h = some (iZ (9 * x + y)) := by
  unfold FX6_cellOf
  rw [q9, iZ_mul, iZ_add]
theorem placeOf_eq (x y i : Int) : FX6_placeOf T (iZ x) (iZ y) (iZ i) h = some (iZ (2 * (9 * x + y) + i)) := by
  unfold FX6_placeOf
  simp only [cellOf_eq, zsb, q2, iZ_mul, iZ_add]
theorem marksIn_t (hS : ShAt T h b d) (hO : OkD d) {x y : Int} (g : inG d x y) : FX3_marksIn T b (iZ x) (iZ y) h = some (iZ (cn d x y)) := by
  have hc := hasCell_t hS hO g
  obtain ⟨⟨o1, o2, o3, o4, -⟩, -⟩ := hO
  obtain ⟨g1, g2, g3, g4⟩ := g
  unfold FX3_marksIn
  simp (disch := omega) only [sh_zo hS, zsb, zJ, hc, q0, iZ_eq, if_neg, sh_r4 hS, cellOf_eq, at_in (sh_n4 hS)]
  rfl
theorem marksIn_f (hS : ShAt T h b d) (hO : OkD d) {x y : Int} (x1 : -2147483648 ≤ x) (x2 : x < 2147483648) (y1 : -2147483648 ≤ y) (y2 : y < 2147483648) (g : ¬ inG d x y) : FX3_marksIn T b (iZ x) (iZ y) h = some (iZ 0) := by
  have hc := hasCell_f hS hO x1 x2 y1 y2 g
  unfold FX3_marksIn
  simp (disch := omega) only [sh_zo hS, zsb, zJ, hc, q0, if_pos, if_true]
theorem hasMark_t (hS : ShAt T h b d) (hO : OkD d) {x y i : Int} (g : inG d x y) (i1 : 0 ≤ i) (i2 : i < cn d x y) : FX3_hasMark T b (iZ x) (iZ y) (iZ i) h = some (iZ 1) := by
  have hc := hasCell_t hS hO g
  have hk := hO.2.2.2 x y g
  obtain ⟨⟨o1, o2, o3, o4, -⟩, -⟩ := hO
  obtain ⟨g1, g2, g3, g4⟩ := g
  have ha : FX1_at T (b + 7) (iZ (9 * x + y)) h = some (iZ (cn d x y)) := at_in (sh_n4 hS) (by omega) (by omega) (by omega)
  unfold FX3_hasMark
  simp (disch := omega) only [sh_zo hS, zsb, zJ, hc, q0, q1, iZ_eq, iZ_lt, iZ_le, if_pos, if_neg, or_true, true_or, if_true, sh_r4 hS, cellOf_eq, ha]
theorem hasMark_f (hS : ShAt T h b d) (hO : OkD d) {x y i : Int} (x1 : -2147483648 ≤ x) (x2 : x < 2147483648) (y1 : -2147483648 ≤ y) (y2 : y < 2147483648) (i1 : -2147483648 ≤ i) (i2 : i < 2147483648) (g : ¬ (inG d x y ∧ 0 ≤ i ∧ i < cn d x y)) : FX3_hasMark T b (iZ x) (iZ y) (iZ i) h = some (iZ 0) := by
  by_cases gg : inG d x y
  case neg =>
    have hc := hasCell_f hS hO x1 x2 y1 y2 gg
    unfold FX3_hasMark
    simp (disch := omega) only [sh_zo hS, zsb, zJ, hc, q0, q1, iZ_eq, if_pos, or_true, true_or, if_true]
  have hc := hasCell_t hS hO gg
  have hk := hO.2.2.2 x y gg
  obtain ⟨⟨o1, o2, o3, o4, -⟩, -⟩ := hO
  have g0 := gg
  obtain ⟨g1, g2, g3, g4⟩ := gg
  have ha : FX1_at T (b + 7) (iZ (9 * x + y)) h = some (iZ (cn d x y)) := at_in (sh_n4 hS) (by omega) (by omega) (by omega)
  have hg : ¬ (0 ≤ i ∧ i < cn d x y) := fun z => g ⟨g0, z⟩
  unfold FX3_hasMark
  simp (disch := omega) only [sh_zo hS, zsb, zJ, hc, q0, q1, iZ_eq, iZ_lt, iZ_le, if_pos, if_neg, or_true, true_or, if_true, sh_r4 hS, cellOf_eq, ha]
  by_cases c1 : i < 0
  · rw [if_pos c1]
  · rw [if_neg c1]
theorem hasRoom_t (hS : ShAt T h b d) (hO : OkD d) {x y : Int} (g : inG d x y) (i2 : cn d x y < 2) : FX3_hasRoom T b (iZ x) (iZ y) h = some (iZ 1) := by
  have hc := hasCell_t hS hO g
  have hk := hO.2.2.2 x y g
  obtain ⟨⟨o1, o2, o3, o4, -⟩, -⟩ := hO
  obtain ⟨g1, g2, g3, g4⟩ := g
  have ha : FX1_at T (b + 7) (iZ (9 * x + y)) h = some (iZ (cn d x y)) := at_in (sh_n4 hS) (by omega) (by omega) (by omega)
  unfold FX3_hasRoom
  simp (disch := omega) only [sh_zo hS, zsb, zJ, hc, q0, q1, q2, iZ_eq, iZ_lt, iZ_le, if_pos, if_neg, or_true, true_or, if_true, sh_r4 hS, cellOf_eq, ha]
theorem hasRoom_f (hS : ShAt T h b d) (hO : OkD d) {x y : Int} (x1 : -2147483648 ≤ x) (x2 : x < 2147483648) (y1 : -2147483648 ≤ y) (y2 : y < 2147483648) (g : ¬ (inG d x y ∧ cn d x y < 2)) : FX3_hasRoom T b (iZ x) (iZ y) h = some (iZ 0) := by
  by_cases gg : inG d x y
  case neg =>
    have hc := hasCell_f hS hO x1 x2 y1 y2 gg
    unfold FX3_hasRoom
    simp (disch := omega) only [sh_zo hS, zsb, zJ, hc, q0, q1, iZ_eq, if_pos, or_true, true_or, if_true]
  have hc := hasCell_t hS hO gg
  have hk := hO.2.2.2 x y gg
  obtain ⟨⟨o1, o2, o3, o4, -⟩, -⟩ := hO
  have g0 := gg
  obtain ⟨g1, g2, g3, g4⟩ := gg
  have ha : FX1_at T (b + 7) (iZ (9 * x + y)) h = some (iZ (cn d x y)) := at_in (sh_n4 hS) (by omega) (by omega) (by omega)
  have hg : ¬ (cn d x y < 2) := fun z => g ⟨g0, z⟩
  unfold FX3_hasRoom
  simp (disch := omega) only [sh_zo hS, zsb, zJ, hc, q0, q1, q2, iZ_eq, iZ_lt, iZ_le, if_pos, if_neg, or_true, true_or, if_true, sh_r4 hS, cellOf_eq, ha]
/-- a mark's decision; none where there is no such mark -/
theorem decision_t (hS : ShAt T h b d) (hO : OkD d) {x y i : Int} (g : inG d x y) (i1 : 0 ≤ i) (i2 : i < cn d x y) : FX3_decisionOf T b (iZ x) (iZ y) (iZ i) h = some (iZ (d 8 (pl x y i))) := by
  have hc := hasMark_t hS hO g i1 i2
  have hk := hO.2.2.2 x y g
  obtain ⟨⟨o1, o2, o3, o4, -⟩, -⟩ := hO
  obtain ⟨g1, g2, g3, g4⟩ := g
  have ha : FX1_at T (b + 15) (iZ (2 * (9 * x + y) + i)) h = some (iZ (d 8 (pl x y i))) := at_in (sh_n8 hS) (by omega) (by omega) (by omega)
  unfold FX3_decisionOf
  simp (disch := omega) only [sh_zo hS, zsb, zJ, hc, q0, iZ_eq, if_neg, sh_r8 hS, placeOf_eq, ha]
theorem decision_f (hS : ShAt T h b d) (hO : OkD d) {x y i : Int} (x1 : -2147483648 ≤ x) (x2 : x < 2147483648) (y1 : -2147483648 ≤ y) (y2 : y < 2147483648) (i1 : -2147483648 ≤ i) (i2 : i < 2147483648) (g : ¬ (inG d x y ∧ 0 ≤ i ∧ i < cn d x y)) : FX3_decisionOf T b (iZ x) (iZ y) (iZ i) h = some (iZ (-9)) := by
  have hc := hasMark_f hS hO x1 x2 y1 y2 i1 i2 g
  unfold FX3_decisionOf
  simp (disch := omega) only [sh_zo hS, zsb, zJ, hc, q0, if_pos, if_true]
  rfl
end Sh
