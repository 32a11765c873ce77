/-! the CrossedSheet object; the checks of both sides -/
def CsAt (h : zH) (b : Nat) (n : Int) : Prop := h b = some (.inr (6, [.ref (b + 1), .int (iZ n), .ref (b + 3), .ref (b + 4), .ref (b + 21), .ref (b + 38), .ref (b + 55), .ref (b + 298), .ref (b + 336), .ref (b + 343), .ref (b + 350), .ref (b + 352)]))
theorem zb2n {α β ρ : Type} (a : α) (b : β) (f : α → β → Option ρ) : zb2 (some (a, b)) f = f a b := by rw [zb2s]
section Cs
variable {T : zT} {h h' : zH} {b : Nat} {n : Int}
theorem cs_zo (hM : CsAt h b n) : zo h b 6 = some [.ref (b + 1), .int (iZ n), .ref (b + 3), .ref (b + 4), .ref (b + 21), .ref (b + 38), .ref (b + 55), .ref (b + 298), .ref (b + 336), .ref (b + 343), .ref (b + 350), .ref (b + 352)] := zo_of hM
theorem cs_kept (hM : CsAt h b n) (e : h' b = h b) : CsAt h' b n := e.trans hM
theorem cs_g1 (hM : CsAt h b n) : zgi h b 6 1 = some (iZ n) := by unfold zgi; rw [cs_zo hM]; rfl
theorem cs_r0 (hM : CsAt h b n) : zgr h b 6 0 = some (b + 1) := by unfold zgr; rw [cs_zo hM]; rfl
theorem cs_r2 (hM : CsAt h b n) : zgr h b 6 2 = some (b + 3) := by unfold zgr; rw [cs_zo hM]; rfl
theorem cs_r3 (hM : CsAt h b n) : zgr h b 6 3 = some (b + 4) := by unfold zgr; rw [cs_zo hM]; rfl
theorem cs_r4 (hM : CsAt h b n) : zgr h b 6 4 = some (b + 21) := by unfold zgr; rw [cs_zo hM]; rfl
theorem cs_r5 (hM : CsAt h b n) : zgr h b 6 5 = some (b + 38) := by unfold zgr; rw [cs_zo hM]; rfl
theorem cs_r6 (hM : CsAt h b n) : zgr h b 6 6 = some (b + 55) := by unfold zgr; rw [cs_zo hM]; rfl
theorem cs_r7 (hM : CsAt h b n) : zgr h b 6 7 = some (b + 298) := by unfold zgr; rw [cs_zo hM]; rfl
theorem cs_r8 (hM : CsAt h b n) : zgr h b 6 8 = some (b + 336) := by unfold zgr; rw [cs_zo hM]; rfl
theorem cs_r9 (hM : CsAt h b n) : zgr h b 6 9 = some (b + 343) := by unfold zgr; rw [cs_zo hM]; rfl
theorem cs_r10 (hM : CsAt h b n) : zgr h b 6 10 = some (b + 350) := by unfold zgr; rw [cs_zo hM]; rfl
theorem cs_r11 (hM : CsAt h b n) : zgr h b 6 11 = some (b + 352) := by unfold zgr; rw [cs_zo hM]; rfl
theorem cs_s1 (hM : CsAt h b n) (x : Int) : ∃ h', zpv h b 6 1 (.int (iZ x)) = some h' ∧ CsAt h' b x ∧ ∀ q, q ≠ b → h' q = h q :=
  ⟨_, by unfold zpv; rw [cs_zo hM]; rfl, va_up_self _ _ _, fun q hq => va_up_ne _ _ hq⟩
theorem chkArg_t {p m k : Int} (m1 : -2147483648 ≤ m) (k2 : k < 2147483648) (g : m ≤ p ∧ p ≤ k) : FX6_checkArgument T (iZ p) (iZ m) (iZ k) h = some (.ok (), h) := by
  unfold FX6_checkArgument
  simp only [zJn]
  rw [if_neg (by rw [iZ_lt (by omega) (by omega) (by omega) (by omega)]; omega), if_pos (by rw [iZ_le (by omega) (by omega) (by omega) (by omega)]; omega)]
theorem chkArg_f {p m k : Int} (p1 : -2147483648 ≤ p) (p2 : p < 2147483648) (m1 : -2147483648 ≤ m) (m2 : m < 2147483648) (k1 : -2147483648 ≤ k) (k2 : k < 2147483648) (g : ¬ (m ≤ p ∧ p ≤ k)) : FX6_checkArgument T (iZ p) (iZ m) (iZ k) h = some (.error "java/lang/IllegalArgumentException", h) := by
  unfold FX6_checkArgument
  simp only [zJn]
  by_cases c : p < m
  · rw [if_pos (by rw [iZ_lt (by omega) (by omega) (by omega) (by omega)]; omega)]
  · rw [if_neg (by rw [iZ_lt (by omega) (by omega) (by omega) (by omega)]; omega), if_neg (by rw [iZ_le (by omega) (by omega) (by omega) (by omega)]; omega)]
theorem chkCell_t {d : Nat → Nat → Int} (hM : CsAt h b n) (hS : ShAt T h (b + 4) d) (hO : OkD d) {x y : Int} (g : inG d x y) : FX6_checkCell T b (iZ x) (iZ y) h = some (.ok (), h) := by
  unfold FX6_checkCell
  rw [cs_zo hM, zsn, cs_r3 hM, zsn, hasCell_t hS hO g, zsn, q0, if_neg (by decide)]
theorem chkCell_f {d : Nat → Nat → Int} (hM : CsAt h b n) (hS : ShAt T h (b + 4) d) (hO : OkD d) {x y : Int} (x1 : -2147483648 ≤ x) (x2 : x < 2147483648) (y1 : -2147483648 ≤ y) (y2 : y < 2147483648) (g : ¬ inG d x y) : FX6_checkCell T b (iZ x) (iZ y) h = some (.error "java/lang/IndexOutOfBoundsException", h) := by
  unfold FX6_checkCell
  rw [cs_zo hM, zsn, cs_r3 hM, zsn, hasCell_f hS hO x1 x2 y1 y2 g, zsn, q0, if_pos rfl]
theorem chkMark_t {d : Nat → Nat → Int} (hM : CsAt h b n) (hS : ShAt T h (b + 4) d) (hO : OkD d) {x y i : Int} (g : inG d x y) (i1 : 0 ≤ i) (i2 : i < cn d x y) : FX6_checkMark T b (iZ x) (iZ y) (iZ i) h = some (.ok (), h) := by
  unfold FX6_checkMark
  rw [cs_zo hM, zsn, cs_r3 hM, zsn, hasMark_t hS hO g i1 i2, zsn, q0, if_neg (by decide)]
theorem chkMark_f {d : Nat → Nat → Int} (hM : CsAt h b n) (hS : ShAt T h (b + 4) d) (hO : OkD d) {x y i : Int} (x1 : -2147483648 ≤ x) (x2 : x < 2147483648) (y1 : -2147483648 ≤ y) (y2 : y < 2147483648) (i1 : -2147483648 ≤ i) (i2 : i < 2147483648) (g : ¬ (inG d x y ∧ 0 ≤ i ∧ i < cn d x y)) : FX6_checkMark T b (iZ x) (iZ y) (iZ i) h = some (.error "java/lang/IndexOutOfBoundsException", h) := by
  unfold FX6_checkMark
  rw [cs_zo hM, zsn, cs_r3 hM, zsn, hasMark_f hS hO x1 x2 y1 y2 i1 i2 g, zsn, q0, if_pos rfl]
theorem chkLet_t {z : Int} (z1 : 0 ≤ z) (z2 : z < 2) : FX6_checkLetter T (iZ z) h = some (.ok (), h) := by
  unfold FX6_checkLetter
  rw [isLet_t z1 z2, zsn, q0, if_neg (by decide)]
theorem chkLet_f {z : Int} (z1 : -2147483648 ≤ z) (z2 : z < 2147483648) (g : ¬ (0 ≤ z ∧ z < 2)) : FX6_checkLetter T (iZ z) h = some (.error "java/lang/IndexOutOfBoundsException", h) := by
  unfold FX6_checkLetter
  rw [isLet_f z1 z2 g, zsn, q0, if_pos rfl]
theorem chkSlot_t {z : Int} (z1 : 0 ≤ z) (z2 : z < 2) : FX6_checkSlot T (iZ z) h = some (.ok (), h) := by
  unfold FX6_checkSlot
  simp only [zJn]
  rw [q0, q2, if_neg (by rw [iZ_lt (by omega) (by omega) (by omega) (by omega)]; omega), if_pos (by rw [iZ_lt (by omega) (by omega) (by omega) (by omega)]; omega)]
theorem chkSlot_f {z : Int} (z1 : -2147483648 ≤ z) (z2 : z < 2147483648) (g : ¬ (0 ≤ z ∧ z < 2)) : FX6_checkSlot T (iZ z) h = some (.error "java/lang/IndexOutOfBoundsException", h) := by
  unfold FX6_checkSlot
  simp only [zJn]
  by_cases c : z < 0
  · rw [q0, if_pos (by rw [iZ_lt (by omega) (by omega) (by omega) (by omega)]; omega)]
  · rw [q0, q2, if_neg (by rw [iZ_lt (by omega) (by omega) (by omega) (by omega)]; omega), if_neg (by rw [iZ_lt (by omega) (by omega) (by omega) (by omega)]; omega)]
end Cs