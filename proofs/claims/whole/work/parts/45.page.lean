/-! the reference's page: 739 numbers; what it has to do with a Sheet's data -/
def cel (x y : Int) : Int := 10 + 9 * (9 * y + x)
def PgM (d : Nat → Nat → Int) (r : Nat → Int) : Prop := (r 0 = d 0 0) ∧ (r 1 = d 0 1) ∧ (r 3 = d 0 3) ∧ (∀ k : Nat, k < 2 → r (4 + 3 * k) = d 1 k ∧ r (4 + 3 * k + 1) = d 2 k ∧ r (4 + 3 * k + 2) = d 3 k) ∧ (∀ x y, inG d x y → r (cel x y).toNat = cn d x y) ∧ (∀ x y, 0 ≤ x → x < 9 → 0 ≤ y → y < 9 → ¬ inG d x y → r (cel x y).toNat = 0) ∧ (∀ x y i, inG d x y → 0 ≤ i → i < cn d x y → r (cel x y + 1 + 4 * i).toNat = d 5 (pl x y i) ∧ r (cel x y + 1 + 4 * i + 1).toNat = d 6 (pl x y i) ∧ r (cel x y + 1 + 4 * i + 2).toNat = d 7 (pl x y i) ∧ r (cel x y + 1 + 4 * i + 3).toNat = d 8 (pl x y i))
theorem PgM.w {d : Nat → Nat → Int} {r : Nat → Int} (hP : PgM d r) : r 0 = d 0 0 := hP.1
theorem PgM.v {d : Nat → Nat → Int} {r : Nat → Int} (hP : PgM d r) : r 1 = d 0 1 := hP.2.1
theorem PgM.g {d : Nat → Nat → Int} {r : Nat → Int} (hP : PgM d r) : r 3 = d 0 3 := hP.2.2.1
theorem PgM.p {d : Nat → Nat → Int} {r : Nat → Int} (hP : PgM d r) : ∀ k : Nat, k < 2 → r (4 + 3 * k) = d 1 k ∧ r (4 + 3 * k + 1) = d 2 k ∧ r (4 + 3 * k + 2) = d 3 k := hP.2.2.2.1
theorem PgM.c {d : Nat → Nat → Int} {r : Nat → Int} (hP : PgM d r) : ∀ x y, inG d x y → r (cel x y).toNat = cn d x y := hP.2.2.2.2.1
theorem PgM.o {d : Nat → Nat → Int} {r : Nat → Int} (hP : PgM d r) : ∀ x y, 0 ≤ x → x < 9 → 0 ≤ y → y < 9 → ¬ inG d x y → r (cel x y).toNat = 0 := hP.2.2.2.2.2.1
theorem PgM.m {d : Nat → Nat → Int} {r : Nat → Int} (hP : PgM d r) : ∀ x y i, inG d x y → 0 ≤ i → i < cn d x y → r (cel x y + 1 + 4 * i).toNat = d 5 (pl x y i) ∧ r (cel x y + 1 + 4 * i + 1).toNat = d 6 (pl x y i) ∧ r (cel x y + 1 + 4 * i + 2).toNat = d 7 (pl x y i) ∧ r (cel x y + 1 + 4 * i + 3).toNat = d 8 (pl x y i) := hP.2.2.2.2.2.2
def Pg (d : Nat → Nat → Int) (r : Nat → Int) : Prop := PgM d r ∧ r 2 = d 0 2
theorem cel_in {x y : Int} (g : 0 ≤ x ∧ x < 9 ∧ 0 ≤ y ∧ y < 9) : 10 ≤ cel x y ∧ cel x y ≤ 730 := by unfold cel; omega
def ownof (d : Nat → Nat → Int) (x y i : Int) : Int := if i = 0 ∨ own d x y = -9 then own d x y else 1 - own d x y
/-- whichever of the marks: the lead of letter 0 -/
def sgn (d : Nat → Nat → Int) (x y i : Int) : Int := if cn d x y = 1 then dst d (pl x y i) 0 - dst d (pl x y i) 1 else dst d (pl x y i) 0 + dst d (pl x y (1 - i)) 1 - dst d (pl x y i) 1 - dst d (pl x y (1 - i)) 0
def rlv (d : Nat → Nat → Int) (x y i : Int) : Int := 10 * rul d x y i + (if ownof d x y i = -9 then 0 else ownof d x y i)
section Pg
variable {T : zT} {h : zH} {a : Nat} {r : Nat → Int} {d : Nat → Nat → Int}
theorem in_t {p m n : Int} (p1 : -2147483648 ≤ p) (p2 : p < 2147483648) (m1 : -2147483648 ≤ m) (m2 : m < 2147483648) (n1 : -2147483648 ≤ n) (n2 : n < 2147483648) (g : m ≤ p ∧ p ≤ n) : FX7_in T (lZ p) (lZ m) (lZ n) h = some (iZ 1) := by
  unfold FX7_in
  simp only [lg_lt, lg_gt]
  simp (disch := omega) only [zJ, lZ_lt, q0, q1, iZ_eq, if_neg, or_true, true_or, if_true]
theorem in_f {p m n : Int} (p1 : -2147483648 ≤ p) (p2 : p < 2147483648) (m1 : -2147483648 ≤ m) (m2 : m < 2147483648) (n1 : -2147483648 ≤ n) (n2 : n < 2147483648) (g : ¬ (m ≤ p ∧ p ≤ n)) : FX7_in T (lZ p) (lZ m) (lZ n) h = some (iZ 0) := by
  unfold FX7_in
  simp only [lg_lt, lg_gt]
  by_cases c : p < m
  · simp (disch := omega) only [zJ, lZ_lt, q0, q1, iZ_eq, if_pos, or_true, true_or, if_true]
  · simp (disch := omega) only [zJ, lZ_lt, q0, q1, iZ_eq, if_pos, if_neg, or_true, true_or, if_true]
theorem l0 : (0 : Int64) = lZ 0 := rfl
theorem l1 : (1 : Int64) = lZ 1 := rfl
theorem l2 : (2 : Int64) = lZ 2 := rfl
theorem l3 : (3 : Int64) = lZ 3 := rfl
theorem l4 : (4 : Int64) = lZ 4 := rfl
theorem l8 : (8 : Int64) = lZ 8 := rfl
theorem l9 : (9 : Int64) = lZ 9 := rfl
theorem l25 : (25 : Int64) = lZ 25 := rfl
theorem l26 : (26 : Int64) = lZ 26 := rfl
theorem l255 : (255 : Int64) = lZ 255 := rfl
theorem cellAt_eq (x y : Int) : FX7_cellAt T (iZ x) (iZ y) h = some (iZ (cel x y)) := by
  unfold FX7_cellAt cel
  rw [q9, q10, iZ_mul, iZ_add, iZ_mul, iZ_add]
theorem markAt_eq (c i : Int) : FX7_markAt T (iZ c) (iZ i) h = some (iZ (c + 1 + 4 * i)) := by
  unfold FX7_markAt
  rw [q1, q4, iZ_add, iZ_mul, iZ_add]
theorem zai_p (hA : Arr T h a 739 r) {i : Int} (h1 : 0 ≤ i) (h2 : i < 739) : zai T h a (iZ i) = some (iZ (r i.toNat)) := zai_Arr hA h1 (by omega) (by omega)
theorem isCell_t (hA : Arr T h a 739 r) (hP : PgM d r) (hO : OkD d) {x y : Int} (g : inG d x y) : FX7_isCell T a (iZ x) (iZ y) h = some (iZ 1) := by
  obtain ⟨⟨o1, o2, o3, o4, -⟩, -⟩ := hO
  obtain ⟨g1, g2, g3, g4⟩ := g
  have e0 : zai T h a (iZ 0) = some (iZ (d 0 0)) := by rw [zai_p hA (by omega) (by omega), ← hP.w]; rfl
  have e1 : zai T h a (iZ 1) = some (iZ (d 0 1)) := by rw [zai_p hA (by omega) (by omega), ← hP.v]; rfl
  unfold FX7_isCell
  simp (disch := omega) only [zJ, zsb, q0, q1, l0, e0, e1, iZ_sub, iZ_long, in_t, iZ_eq, if_neg, or_true, true_or, if_true]
theorem isCell_f (hA : Arr T h a 739 r) (hP : PgM d r) (hO : OkD d) {x y : Int} (x1 : -2147483648 ≤ x) (x2 : x < 2147483648) (y1 : -2147483648 ≤ y) (y2 : y < 2147483648) (g : ¬ inG d x y) : FX7_isCell T a (iZ x) (iZ y) h = some (iZ 0) := by
  obtain ⟨⟨o1, o2, o3, o4, -⟩, -⟩ := hO
  have e0 : zai T h a (iZ 0) = some (iZ (d 0 0)) := by rw [zai_p hA (by omega) (by omega), ← hP.w]; rfl
  have e1 : zai T h a (iZ 1) = some (iZ (d 0 1)) := by rw [zai_p hA (by omega) (by omega), ← hP.v]; rfl
  unfold inG at g
  unfold FX7_isCell
  by_cases c : 0 ≤ x ∧ x ≤ d 0 0 - 1
  · simp (disch := omega) only [zJ, zsb, q0, q1, l0, e0, e1, iZ_sub, iZ_long, in_t, in_f, iZ_eq, if_pos, if_neg, or_true, true_or, if_true]
  · simp (disch := omega) only [zJ, zsb, q0, q1, l0, e0, e1, iZ_sub, iZ_long, in_f, iZ_eq, if_pos, if_neg, or_true, true_or, if_true]
theorem zai_c (hA : Arr T h a 739 r) (hP : PgM d r) (hO : OkD d) {x y : Int} (g : inG d x y) : zai T h a (iZ (cel x y)) = some (iZ (cn d x y)) := by
  have h9 := cel_in (hO.g9 g)
  rw [zai_p hA (by omega) (by omega), hP.c x y g]
theorem isMark_t (hA : Arr T h a 739 r) (hP : PgM d r) (hO : OkD d) {x y i : Int} (g : inG d x y) (i1 : 0 ≤ i) (i2 : i < cn d x y) : FX7_isMark T a (iZ x) (iZ y) (iZ i) h = some (iZ 1) := by
  have hc := hO.cn g
  unfold FX7_isMark
  simp (disch := omega) only [zJ, zsb, q0, q1, l0, isCell_t hA hP hO g, cellAt_eq, zai_c hA hP hO g, iZ_sub, iZ_long, in_t, iZ_eq, if_neg, or_true, true_or, if_true]
theorem isMark_f (hA : Arr T h a 739 r) (hP : PgM d r) (hO : OkD d) {x y i : Int} (x1 : -2147483648 ≤ x) (x2 : x < 2147483648) (y1 : -2147483648 ≤ y) (y2 : y < 2147483648) (i1 : -2147483648 ≤ i) (i2 : i < 2147483648) (g : ¬ (inG d x y ∧ 0 ≤ i ∧ i < cn d x y)) : FX7_isMark T a (iZ x) (iZ y) (iZ i) h = some (iZ 0) := by
  unfold FX7_isMark
  by_cases c : inG d x y
  · have hc := hO.cn c
    have gi : ¬ (0 ≤ i ∧ i < cn d x y) := fun z => g ⟨c, z⟩
    simp (disch := omega) only [zJ, zsb, q0, q1, l0, isCell_t hA hP hO c, cellAt_eq, zai_c hA hP hO c, iZ_sub, iZ_long, in_f, iZ_eq, if_pos, if_neg, or_true, true_or, if_true]
  · simp (disch := omega) only [zJ, zsb, q0, q1, l0, isCell_f hA hP hO x1 x2 y1 y2 c, iZ_eq, if_pos, or_true, true_or, if_true]
theorem isLet7_t {z : Int} (z1 : 0 ≤ z) (z2 : z < 2) : FX7_isLetter T (iZ z) h = some (iZ 1) := by
  unfold FX7_isLetter
  simp (disch := omega) only [zJ, zsb, q0, q1, l0, l1, iZ_long, in_t, iZ_eq, if_neg, or_true, true_or, if_true]
theorem isLet7_f {z : Int} (z1 : -2147483648 ≤ z) (z2 : z < 2147483648) (g : ¬ (0 ≤ z ∧ z < 2)) : FX7_isLetter T (iZ z) h = some (iZ 0) := by
  unfold FX7_isLetter
  simp (disch := omega) only [zJ, zsb, q0, q1, l0, l1, iZ_long, in_f, iZ_eq, if_neg, or_true, true_or, if_true]
theorem apart_eq {p q : Int} (p1 : -1073741824 ≤ p) (p2 : p < 1073741824) (r1 : -1073741824 ≤ q) (r2 : q < 1073741824) : FX7_apart T (iZ p) (iZ q) h = some (iZ (zabs (p - q))) := by
  unfold FX7_apart zabs
  simp (disch := omega) only [zJ, iZ_le, iZ_sub]
  by_cases c : q ≤ p
  · rw [if_pos c, if_pos (by omega)]
  · rw [if_neg c, if_neg (by omega)]
    congr 2
    omega
theorem zai_m (hA : Arr T h a 739 r) (hP : PgM d r) (hO : OkD d) {x y i : Int} (g : inG d x y) (i1 : 0 ≤ i) (i2 : i < cn d x y) : zai T h a (iZ (cel x y + 1 + 4 * i)) = some (iZ (d 5 (pl x y i))) ∧ zai T h a (iZ (cel x y + 1 + 4 * i + 1)) = some (iZ (d 6 (pl x y i))) ∧ zai T h a (iZ (cel x y + 1 + 4 * i + 2)) = some (iZ (d 7 (pl x y i))) ∧ zai T h a (iZ (cel x y + 1 + 4 * i + 3)) = some (iZ (d 8 (pl x y i))) := by
  have h9 := cel_in (hO.g9 g)
  have hc := hO.cn g
  obtain ⟨m1, m2, m3, m4⟩ := hP.m x y i g i1 i2
  rw [zai_p hA (by omega) (by omega), zai_p hA (by omega) (by omega), zai_p hA (by omega) (by omega), zai_p hA (by omega) (by omega), m1, m2, m3, m4]
  exact ⟨rfl, rfl, rfl, rfl⟩
theorem zai_l (hA : Arr T h a 739 r) (hP : PgM d r) {k : Nat} (k2 : k < 2) : zai T h a (iZ (4 + 3 * k)) = some (iZ (d 1 k)) ∧ zai T h a (iZ (4 + 3 * k + 1)) = some (iZ (d 2 k)) ∧ zai T h a (iZ (4 + 3 * k + 2)) = some (iZ (d 3 k)) := by
  obtain ⟨m1, m2, m3⟩ := hP.p k k2
  rw [zai_p hA (by omega) (by omega), zai_p hA (by omega) (by omega), zai_p hA (by omega) (by omega), ← m1, ← m2, ← m3]
  exact ⟨rfl, rfl, rfl⟩
theorem dist7_eq (hA : Arr T h a 739 r) (hP : PgM d r) (hO : OkD d) {x y i : Int} (g : inG d x y) (i1 : 0 ≤ i) (i2 : i < cn d x y) {k : Nat} (k2 : k < 2) : FX7_distance T a (iZ (cel x y + 1 + 4 * i)) (iZ k) h = some (iZ (dst d (pl x y i) k)) := by
  obtain ⟨m1, m2, m3, m4⟩ := zai_m hA hP hO g i1 i2
  obtain ⟨p1, p2, p3⟩ := zai_l hA hP k2
  obtain ⟨a1, a2, a3, a4, a5, a6, -⟩ := hO.mk g i1 i2
  obtain ⟨b1, b2, b3, b4, -, -⟩ := hO.lw k2
  unfold FX7_distance dst
  simp (disch := omega) only [q1, q2, q3, q4, iZ_add, iZ_mul, zsb, m2, m3, p1, p2, apart_eq]
end Pg
