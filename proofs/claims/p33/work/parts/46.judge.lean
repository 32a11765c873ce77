/-! the reference's judgement of a mark, its counts; the same numbers as the Sheet's -/
theorem q30 : (30 : Int32) = iZ 30 := rfl
theorem q40 : (40 : Int32) = iZ 40 := rfl
theorem q21 : (21 : Int32) = iZ 21 := rfl
theorem q31 : (31 : Int32) = iZ 31 := rfl
section Own
variable {d : Nat → Nat → Int}
theorem own_A0 {x y : Int} (hc : 0 < cn d x y) (h0 : dec d x y 0 ≠ -9) : own d x y = dec d x y 0 := by
  unfold own
  rw [if_neg (by omega), if_neg h0]
theorem own_A1 {x y : Int} (hc : 0 < cn d x y) (h0 : dec d x y 0 = -9) (h1 : dec d x y 1 ≠ -9) : own d x y = 1 - dec d x y 1 := by
  unfold own
  rw [if_neg (by omega), if_pos h0, if_neg h1]
theorem own_A2 {x y : Int} (hc : 0 < cn d x y) (h0 : dec d x y 0 = -9) (h1 : dec d x y 1 = -9) : own d x y = if d 0 2 < zabs (lean d x y) then (if lean d x y ≤ 0 then 1 else 0) else -9 := by
  unfold own
  rw [if_neg (by omega), if_pos h0, if_pos h1]
theorem dec_lt {x y i : Int} (hi : i < cn d x y) : dec d x y i = d 8 (pl x y i) := if_pos hi
theorem dec_ge {x y i : Int} (hi : cn d x y ≤ i) : dec d x y i = -9 := if_neg (by omega)
theorem dec_ne (hO : OkD d) {x y : Int} (g : inG d x y) (h0 : dec d x y 0 ≠ -9) (h1 : dec d x y 1 ≠ -9) : dec d x y 1 = 1 - dec d x y 0 := by
  have i0 := dec_in hO g (i := 0) (by omega)
  have i1 := dec_in hO g (i := 1) (by omega)
  have hc : 1 < cn d x y := by
    by_cases c : 1 < cn d x y
    · exact c
    · exact absurd (dec_ge (by omega)) h1
  have h2 := (hO.2.2.2 x y g).2.2.2 (by have := hO.cn g; omega)
  rw [← dec_lt (d := d) (x := x) (y := y) (i := 0) (by omega), ← dec_lt (d := d) (x := x) (y := y) (i := 1) (by omega)] at h2
  omega
theorem ownof_A (hO : OkD d) {x y i : Int} (g : inG d x y) (i1 : 0 ≤ i) (i2 : i < 2) (hc : 0 < cn d x y) (hd : dec d x y i ≠ -9) : ownof d x y i = dec d x y i := by
  have e0 := dec_in hO g (i := 0) (by omega)
  have e1 := dec_in hO g (i := 1) (by omega)
  unfold ownof
  rcases (show i = 0 ∨ i = 1 by omega) with rfl | rfl
  · rw [if_pos (Or.inl rfl), own_A0 hc hd]
  · by_cases c : dec d x y 0 = -9
    · rw [own_A1 hc c hd, if_neg (by omega)]; omega
    · have := dec_ne hO g c hd
      rw [own_A0 hc c, if_neg (by omega)]; omega
theorem ownof_C (hO : OkD d) {x y i : Int} (g : inG d x y) (i1 : 0 ≤ i) (i2 : i < 2) (hc : 0 < cn d x y) (hd : dec d x y i = -9) (hd2 : dec d x y (1 - i) ≠ -9) : ownof d x y i = 1 - dec d x y (1 - i) := by
  have e0 := dec_in hO g (i := 0) (by omega)
  have e1 := dec_in hO g (i := 1) (by omega)
  unfold ownof
  rcases (show i = 0 ∨ i = 1 by omega) with rfl | rfl
  · rw [if_pos (Or.inl rfl)]
    exact own_A1 hc hd hd2
  · have hd3 : dec d x y 0 ≠ -9 := hd2
    rw [own_A0 hc hd3, if_neg (by omega)]
    rfl
theorem ownof_D (hO : OkD d) {x y i : Int} (g : inG d x y) (i1 : 0 ≤ i) (i2 : i < cn d x y) (hd : dec d x y i = -9) (hd2 : dec d x y (1 - i) = -9) : ownof d x y i = if zabs (sgn d x y i) ≤ d 0 2 then -9 else if sgn d x y i ≤ 0 then 0 else 1 := by
  have hcn := hO.cn g
  obtain ⟨⟨o1, o2, o3, o4, o5, o6, -⟩, -⟩ := id hO
  have hs : lean d x y = (if i = 0 then - sgn d x y i else sgn d x y i) := by
    unfold lean sgn
    rcases (show (i = 0 ∧ cn d x y = 1) ∨ (i = 0 ∧ cn d x y = 2) ∨ (i = 1 ∧ cn d x y = 2) by omega) with ⟨rfl, c⟩ | ⟨rfl, c⟩ | ⟨rfl, c⟩
    · rw [if_neg (by omega), if_pos rfl, if_pos c]; omega
    · rw [if_pos (by omega), if_pos rfl, if_neg (by omega), show (1 : Int) - 0 = 1 from rfl]; omega
    · rw [if_pos (by omega), if_neg (by omega), if_neg (by omega), show (1 : Int) - 1 = 0 from rfl]; omega
  have ho : own d x y = if d 0 2 < zabs (lean d x y) then (if lean d x y ≤ 0 then 1 else 0) else -9 := by
    rcases (show i = 0 ∨ i = 1 by omega) with rfl | rfl
    · exact own_A2 (by omega) hd hd2
    · exact own_A2 (by omega) hd2 hd
  have ha : zabs (lean d x y) = zabs (sgn d x y i) := by
    rw [hs]
    unfold zabs
    split <;> split <;> (try split) <;> omega
  unfold ownof
  rw [ho, ha]
  by_cases c : d 0 2 < zabs (sgn d x y i)
  · have hn : sgn d x y i ≠ 0 := by
      intro z
      rw [z] at c
      unfold zabs at c
      rw [if_pos (by omega)] at c
      omega
    rw [if_pos c, if_neg (show ¬ zabs (sgn d x y i) ≤ d 0 2 by omega)]
    by_cases ci : i = 0
    · have hs2 : lean d x y = - sgn d x y i := by rw [hs, if_pos ci]
      rw [if_pos (Or.inl ci), hs2]
      by_cases cs : sgn d x y i ≤ 0
      · rw [if_neg (by omega), if_pos cs]
      · rw [if_pos (by omega), if_neg cs]
    · have hs2 : lean d x y = sgn d x y i := by rw [hs, if_neg ci]
      rw [hs2]
      by_cases cs : sgn d x y i ≤ 0
      · rw [if_pos cs, if_pos cs, if_neg (by omega)]; rfl
      · rw [if_neg cs, if_neg cs, if_neg (by omega)]; rfl
  · rw [if_neg c, if_pos (Or.inr rfl), if_pos (by omega)]
theorem ownof_in (hO : OkD d) {x y i : Int} (g : inG d x y) : ownof d x y i = -9 ∨ ownof d x y i = 0 ∨ ownof d x y i = 1 := by
  have := own_in hO g
  unfold ownof
  split <;> omega
theorem own9 (hO : OkD d) {x y i : Int} (g : inG d x y) (i1 : 0 ≤ i) (i2 : i < 2) (hc : 0 < cn d x y) (ho : own d x y = -9) : dec d x y i = -9 := by
  have e0 := dec_in hO g (i := 0) (by omega)
  have e1 := dec_in hO g (i := 1) (by omega)
  have h0 : dec d x y 0 = -9 := by
    by_cases c : dec d x y 0 = -9
    · exact c
    · have := own_A0 hc c; omega
  have h1 : dec d x y 1 = -9 := by
    by_cases c : dec d x y 1 = -9
    · exact c
    · have := own_A1 hc h0 c; omega
  rcases (show i = 0 ∨ i = 1 by omega) with rfl | rfl
  · exact h0
  · exact h1
theorem rul_in (hO : OkD d) {x y i : Int} (g : inG d x y) (i1 : 0 ≤ i) (i2 : i < 2) (hc : 0 < cn d x y) : (own d x y = -9 ∧ rul d x y i = 5 ∧ ownof d x y i = -9) ∨ (own d x y ≠ -9 ∧ 1 ≤ rul d x y i ∧ rul d x y i ≤ 4 ∧ (ownof d x y i = 0 ∨ ownof d x y i = 1)) := by
  by_cases c : own d x y = -9
  · refine Or.inl ⟨c, ?_, ?_⟩
    · unfold rul
      rw [if_pos (own9 hO g i1 i2 hc c), if_pos (own9 hO g (by omega) (by omega) hc c), if_pos c]
    · unfold ownof
      rw [if_pos (Or.inr c), c]
  · refine Or.inr ⟨c, ?_, ?_, ?_⟩
    · unfold rul
      rw [if_neg c]
      split <;> (try split) <;> (try split) <;> omega
    · unfold rul
      rw [if_neg c]
      split <;> (try split) <;> (try split) <;> omega
    · have := own_in hO g
      unfold ownof
      split <;> omega
theorem rlv_50 (hO : OkD d) {x y i : Int} (g : inG d x y) (i1 : 0 ≤ i) (i2 : i < 2) (hc : 0 < cn d x y) : (rlv d x y i = 50 ↔ own d x y = -9) ∧ 0 ≤ rlv d x y i ∧ rlv d x y i ≤ 50 ∧ rlv d x y i / 10 = rul d x y i ∧ (own d x y ≠ -9 → rlv d x y i % 10 = ownof d x y i) := by
  unfold rlv
  rcases rul_in hO g i1 i2 hc with ⟨c, e1, e2⟩ | ⟨c, e1, e2, e3⟩
  · rw [if_pos e2, e1]; omega
  · rw [if_neg (by omega)]; omega
end Own
section Jd
variable {T : zT} {hz h : zH} {a : Nat} {r : Nat → Int} {d : Nat → Nat → Int}
theorem sgn_le (hO : OkD d) {x y i : Int} (g : inG d x y) (i1 : 0 ≤ i) (i2 : i < cn d x y) : -34 ≤ sgn d x y i ∧ sgn d x y i ≤ 34 := by
  have hcn := hO.cn g
  have a1 := dst_le (hO.mk g i1 i2) hO.2.1
  have a2 := dst_le (hO.mk g i1 i2) hO.2.2.1
  unfold sgn
  by_cases h1 : cn d x y = 1
  · rw [if_pos h1]
    omega
  · have a3 := dst_le (hO.mk g (i := 1 - i) (by omega) (by omega)) hO.2.1
    have a4 := dst_le (hO.mk g (i := 1 - i) (by omega) (by omega)) hO.2.2.1
    rw [if_neg h1]
    omega
end Jd
