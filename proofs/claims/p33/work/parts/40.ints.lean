/-! numbers: an Int32 as the image of an Int, an Int64 likewise -/
def iZ (z : Int) : Int32 := Int32.ofInt z
def lZ (z : Int) : Int64 := Int64.ofInt z
theorem iZ_add (a b : Int) : iZ a + iZ b = iZ (a + b) := (Int32.ofInt_add a b).symm
theorem iZ_sub (a b : Int) : iZ a - iZ b = iZ (a - b) := (Int32.ofInt_sub a b).symm
theorem iZ_mul (a b : Int) : iZ a * iZ b = iZ (a * b) := (Int32.ofInt_mul a b).symm
theorem iZ_neg (a : Int) : -iZ a = iZ (-a) := (Int32.ofInt_neg a).symm
theorem iZ_toInt {a : Int} (h1 : -2147483648 ≤ a) (h2 : a < 2147483648) : (iZ a).toInt = a := Int32.toInt_ofInt_of_le (by omega) (by omega)
theorem iZ_of (x : Int32) : iZ x.toInt = x := Int32.ofInt_toInt x
theorem i_lo (x : Int32) : -2147483648 ≤ x.toInt := x.le_toInt
theorem i_hi (x : Int32) : x.toInt < 2147483648 := x.toInt_lt
/-- any int: its number -/
theorem iZ_any (x : Int32) : ∃ z : Int, -2147483648 ≤ z ∧ z < 2147483648 ∧ x = iZ z := ⟨x.toInt, i_lo x, i_hi x, (iZ_of x).symm⟩
theorem iZ_lt {a b : Int} (h1 : -2147483648 ≤ a) (h2 : a < 2147483648) (h3 : -2147483648 ≤ b) (h4 : b < 2147483648) : (iZ a < iZ b) ↔ a < b := by
  rw [ Int32.lt_iff_toInt_lt, iZ_toInt h1 h2, iZ_toInt h3 h4]
theorem iZ_le {a b : Int} (h1 : -2147483648 ≤ a) (h2 : a < 2147483648) (h3 : -2147483648 ≤ b) (h4 : b < 2147483648) : (iZ a ≤ iZ b) ↔ a ≤ b := by
  rw [ Int32.le_iff_toInt_le, iZ_toInt h1 h2, iZ_toInt h3 h4]
theorem iZ_eq {a b : Int} (h1 : -2147483648 ≤ a) (h2 : a < 2147483648) (h3 : -2147483648 ≤ b) (h4 : b < 2147483648) : (iZ a = iZ b) ↔ a = b := by
  rw [ ← Int32.toInt_inj, iZ_toInt h1 h2, iZ_toInt h3 h4]
theorem iZ_clamp {a : Int} (h1 : -2147483648 ≤ a) (h2 : a < 2147483648) : (iZ a).toNatClampNeg = a.toNat := by
  show (iZ a).toInt.toNat = _
  rw [iZ_toInt h1 h2]
theorem iZ_in {a : Int} {n : Nat} (h1 : -2147483648 ≤ a) (h2 : a < 2147483648) : zin (iZ a) n ↔ 0 ≤ a ∧ a < n := by
  show (¬ (iZ a < 0 ∨ n ≤ (iZ a).toNatClampNeg)) ↔ _
  rw [iZ_clamp h1 h2, show (0 : Int32) = iZ 0 from rfl, iZ_lt h1 h2 (by omega) (by omega)]
  omega
theorem iZ_nat (n : Nat) : Int32.ofNat n = iZ n := by
  show Int32.ofNat n = Int32.ofInt n
  rw [Int32.ofInt_eq_ofNat]
theorem iZ_abs {a : Int} (h1 : -2147483648 < a) (h2 : a < 2147483648) : (if 0 ≤ iZ a then iZ a else 0 - iZ a) = iZ (if 0 ≤ a then a else -a) := by
  rw [show (0 : Int32) = iZ 0 from rfl, iZ_sub]
  have e := iZ_le (a := 0) (b := a) (by omega) (by omega) (by omega) h2
  by_cases h : 0 ≤ a
  · rw [if_pos (e.mpr h), if_pos h]
  · rw [if_neg (fun z => h (e.mp z)), if_neg h, Int.zero_sub]
theorem iZ_div {a b : Int} (h1 : 0 ≤ a) (h2 : a < 2147483648) (h3 : 0 < b) (h4 : b < 2147483648) : iZ a / iZ b = iZ (a / b) := by
  have h := Int32.ofInt_tdiv (a := a) (b := b) (by show (-2147483648 : Int) ≤ a; omega) (by show a ≤ (2147483647 : Int); omega) (by show (-2147483648 : Int) ≤ b; omega) (by show b ≤ (2147483647 : Int); omega)
  show Int32.ofInt a / Int32.ofInt b = _
  rw [← h, Int.tdiv_eq_ediv_of_nonneg h1]
  rfl
theorem zdivI_iZ {a b : Int} (h1 : 0 ≤ a) (h2 : a < 2147483648) (h3 : 0 < b) (h4 : b < 2147483648) : zdivI (iZ a) (iZ b) = some (iZ (a / b)) := by
  unfold zdivI
  rw [if_neg, iZ_div h1 h2 h3 h4]
  rw [show (0 : Int32) = iZ 0 from rfl, iZ_eq (by omega) h4 (by omega) (by omega)]
  omega
theorem zremI_iZ {a b : Int} (h1 : 0 ≤ a) (h2 : a < 2147483648) (h3 : 0 < b) (h4 : b < 2147483648) : zremI (iZ a) (iZ b) = some (iZ (a % b)) := by
  unfold zremI
  rw [if_neg, iZ_div h1 h2 h3 h4, iZ_mul, iZ_sub, show a - a / b * b = a % b from by rw [Int.emod_def, Int.mul_comm]]
  rw [show (0 : Int32) = iZ 0 from rfl, iZ_eq (by omega) h4 (by omega) (by omega)]
  omega
theorem iZ_long {a : Int} (h1 : -2147483648 ≤ a) (h2 : a < 2147483648) : (iZ a).toInt64 = lZ a := Int32.toInt64_ofInt (by show (-2147483648 : Int) ≤ a; omega) (by show a ≤ (2147483647 : Int); omega)
theorem lZ_toInt {a : Int} (h1 : -9223372036854775808 ≤ a) (h2 : a < 9223372036854775808) : (lZ a).toInt = a := Int64.toInt_ofInt_of_le (by omega) (by omega)
theorem lZ_lt {a b : Int} (h1 : -9223372036854775808 ≤ a) (h2 : a < 9223372036854775808) (h3 : -9223372036854775808 ≤ b) (h4 : b < 9223372036854775808) : (lZ a < lZ b) ↔ a < b := by
  rw [ Int64.lt_iff_toInt_lt, lZ_toInt h1 h2, lZ_toInt h3 h4]
theorem lZ_eq {a b : Int} (h1 : -9223372036854775808 ≤ a) (h2 : a < 9223372036854775808) (h3 : -9223372036854775808 ≤ b) (h4 : b < 9223372036854775808) : (lZ a = lZ b) ↔ a = b := by
  rw [ ← Int64.toInt_inj, lZ_toInt h1 h2, lZ_toInt h3 h4]
theorem lZ_any (x : Int64) : ∃ z : Int, -9223372036854775808 ≤ z ∧ z < 9223372036854775808 ∧ x = lZ z := ⟨x.toInt, x.le_toInt, x.toInt_lt, (Int64.ofInt_toInt x).symm⟩
theorem lg_lt {x y : Int64} : (lg_cmp x y < 0) ↔ (x < y) := by
  unfold lg_cmp
  by_cases h1 : y < x
  · rw [if_pos h1]
    constructor
    · intro h; exact absurd h (by decide)
    · intro h; exact absurd h (by rw [Int64.lt_iff_toInt_lt] at h h1 ⊢; omega)
  · rw [if_neg h1]
    by_cases h2 : x = y
    · rw [if_pos h2]
      constructor
      · intro h; exact absurd h (by decide)
      · intro h; exact absurd h (by rw [h2, Int64.lt_iff_toInt_lt]; omega)
    · rw [if_neg h2]
      constructor
      · intro _
        rw [Int64.lt_iff_toInt_lt] at h1 ⊢
        have h3 : ¬ x.toInt = y.toInt := fun e => h2 (Int64.toInt_inj.mp e)
        omega
      · intro _; decide
theorem lg_gt {x y : Int64} : (0 < lg_cmp x y) ↔ (y < x) := by
  unfold lg_cmp
  by_cases h1 : y < x
  · rw [if_pos h1]
    exact ⟨fun _ => h1, fun _ => by decide⟩
  · rw [if_neg h1]
    by_cases h2 : x = y
    · rw [if_pos h2]; exact ⟨fun h => absurd h (by decide), fun h => absurd h h1⟩
    · rw [if_neg h2]; exact ⟨fun h => absurd h (by decide), fun h => absurd h h1⟩
theorem lg_eq0 {x y : Int64} : (lg_cmp x y = 0) ↔ (x = y) := by
  unfold lg_cmp
  by_cases h1 : y < x
  · rw [if_pos h1]
    exact ⟨fun h => absurd h (by decide), fun h => absurd h1 (by rw [h, Int64.lt_iff_toInt_lt]; omega)⟩
  · rw [if_neg h1]
    by_cases h2 : x = y
    · rw [if_pos h2]; exact ⟨fun _ => h2, fun _ => rfl⟩
    · rw [if_neg h2]; exact ⟨fun h => absurd h (by decide), fun h => absurd h h2⟩
/-- the written numbers -/
theorem q0 : (0 : Int32) = iZ 0 := rfl
theorem q1 : (1 : Int32) = iZ 1 := rfl
theorem q2 : (2 : Int32) = iZ 2 := rfl
theorem q3 : (3 : Int32) = iZ 3 := rfl
theorem q4 : (4 : Int32) = iZ 4 := rfl
theorem q5 : (5 : Int32) = iZ 5 := rfl
theorem q6 : (6 : Int32) = iZ 6 := rfl
theorem q7 : (7 : Int32) = iZ 7 := rfl
theorem q8 : (8 : Int32) = iZ 8 := rfl
theorem q9 : (9 : Int32) = iZ 9 := rfl
theorem q10 : (10 : Int32) = iZ 10 := rfl
theorem qm9 : (-9 : Int32) = iZ (-9) := rfl
theorem qm1 : (-1 : Int32) = iZ (-1) := rfl
theorem q26 : (26 : Int32) = iZ 26 := rfl
theorem q50 : (50 : Int32) = iZ 50 := rfl
theorem q81 : (81 : Int32) = iZ 81 := rfl
theorem q739 : (739 : Int32) = iZ 739 := rfl
theorem q120 : (120 : Int32) = iZ 120 := rfl
theorem q255 : (255 : Int32) = iZ 255 := rfl
/-- arrays and objects of one array, as the map holds them -/
def Arr (T : zT) (h : zH) (a n : Nat) (f : Nat → Int) : Prop := h a = some (.inl (T.1, n, .inl (fun j => iZ (f j))))
def Num (T : zT) (h : zH) (a n : Nat) (f : Nat → Int) : Prop := h a = some (.inr (1, [.ref (a + 1)])) ∧ Arr T h (a + 1) n f
def upZ (f : Nat → Int) (k : Nat) (v : Int) : Nat → Int := fun j => if j = k then v else f j
theorem upd_iZ (f : Nat → Int) (k : Nat) (v : Int) : upd (fun j => iZ (f j)) k (iZ v) = fun j => iZ (upZ f k v j) := by
  funext j
  unfold upd upZ
  by_cases h : j = k
  · rw [if_pos h, if_pos h]
  · rw [if_neg h, if_neg h]
theorem zai_Arr {T : zT} {h : zH} {a n : Nat} {f : Nat → Int} (hA : Arr T h a n f) {i : Int} (h1 : 0 ≤ i) (h2 : i < n) (h3 : n < 2147483648) : zai T h a (iZ i) = some (iZ (f i.toNat)) := by
  unfold zai
  rw [hA]
  show (if T.1 = T.1 ∧ zin (iZ i) n then _ else _) = _
  rw [if_pos ⟨rfl, (iZ_in (by omega) (by omega)).mpr ⟨h1, h2⟩⟩, iZ_clamp (by omega) (by omega)]
theorem zas_Arr {T : zT} {h : zH} {a n : Nat} {f : Nat → Int} (hA : Arr T h a n f) {i v : Int} (h1 : 0 ≤ i) (h2 : i < n) (h3 : n < 2147483648) : ∃ h', zas T h a (iZ i) (iZ v) = some h' ∧ Arr T h' a n (upZ f i.toNat v) ∧ ∀ q, q ≠ a → h' q = h q := by
  refine ⟨va_up h a (some (.inl (T.1, n, .inl (fun j => iZ (upZ f i.toNat v j))))), ?_, va_up_self _ _ _, fun q hq => va_up_ne _ _ hq⟩
  unfold zas
  rw [hA]
  show (if T.1 = T.1 ∧ zin (iZ i) n then _ else _) = _
  rw [if_pos ⟨rfl, (iZ_in (by omega) (by omega)).mpr ⟨h1, h2⟩⟩, iZ_clamp (by omega) (by omega), upd_iZ]
theorem zln_Arr {T : zT} {h : zH} {a n : Nat} {f : Nat → Int} (hA : Arr T h a n f) : zln T h a = some (iZ n) := by
  unfold zln
  rw [hA]
  show (if T.1 = T.1 then _ else _) = _
  rw [if_pos rfl, iZ_nat]
theorem Arr.kept {T : zT} {h h' : zH} {a n : Nat} {f : Nat → Int} (hA : Arr T h a n f) (e : h' a = h a) : Arr T h' a n f := e.trans hA
theorem Num.kept {T : zT} {h h' : zH} {a n : Nat} {f : Nat → Int} (hA : Num T h a n f) (e : h' a = h a) (e2 : h' (a + 1) = h (a + 1)) : Num T h' a n f := ⟨e.trans hA.1, e2.trans hA.2⟩
