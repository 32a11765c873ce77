/-! the other readers of a Sheet: rule, search, counts -/
/-- a searching loop -/
theorem loop_find {ρ : Type} {L : Nat → Int32 → Option ρ} {K0 : Nat → Option ρ} {K1 : Option ρ} {P : Nat → Prop} {n : Nat} (hn : n < 9999) (hs : ∀ (k i : Nat), i < n → (P i ∧ L (k + 1) (iZ i) = K0 i) ∨ (¬ P i ∧ L (k + 1) (iZ i) = L k (iZ (i + 1)))) (he : ∀ k, L (k + 1) (iZ n) = K1) :
    (∃ i, i < n ∧ P i ∧ (∀ j, j < i → ¬ P j) ∧ L FUEL (iZ 0) = K0 i) ∨ ((∀ i, i < n → ¬ P i) ∧ L FUEL (iZ 0) = K1) := by
  have key : ∀ (k i : Nat), i ≤ n → n - i < k → (∃ m, i ≤ m ∧ m < n ∧ P m ∧ (∀ j, i ≤ j → j < m → ¬ P j) ∧ L k (iZ i) = K0 m) ∨ ((∀ m, i ≤ m → m < n → ¬ P m) ∧ L k (iZ i) = K1) := by
    intro k
    induction k with
    | zero => intro i _ h; omega
    | succ k ih =>
      intro i hi hk
      by_cases h : i = n
      · subst h
        exact Or.inr ⟨fun m h1 h2 => by omega, he k⟩
      · rcases hs k i (by omega) with ⟨hp, e⟩ | ⟨hp, e⟩
        · exact Or.inl ⟨i, by omega, by omega, hp, fun j h1 h2 => by omega, e⟩
        · rw [e]
          have h9 := ih (i + 1) (by omega) (by omega)
          have e2 : ((i + 1 : Nat) : Int) = (i : Int) + 1 := rfl
          rw [e2] at h9
          rcases h9 with ⟨m, a1, a2, a3, a4, a5⟩ | ⟨a1, a2⟩
          · refine Or.inl ⟨m, by omega, a2, a3, fun j h1 h2 => ?_, a5⟩
            by_cases hj : j = i
            · rw [hj]; exact hp
            · exact a4 j (by omega) h2
          · refine Or.inr ⟨fun m h1 h2 => ?_, a2⟩
            by_cases hj : m = i
            · rw [hj]; exact hp
            · exact a1 m (by omega) h2
  have h := key FUEL 0 (by omega) (by unfold FUEL; omega)
  have e : ((0 : Nat) : Int) = 0 := rfl
  rw [e] at h
  rcases h with ⟨m, a1, a2, a3, a4, a5⟩ | ⟨a1, a2⟩
  · exact Or.inl ⟨m, a2, a3, fun j h => a4 j (by omega) h, a5⟩
  · exact Or.inr ⟨fun m h => a1 m (by omega) h, a2⟩
def rul (d : Nat → Nat → Int) (x y i : Int) : Int := if dec d x y i = -9 then (if dec d x y (1 - i) = -9 then (if own d x y = -9 then 5 else if cn d x y = 1 then 3 else 4) else 2) else 1
section Rd
variable {T : zT} {hz h : zH} {b : Nat} {d : Nat → Nat → Int}
theorem isLet_t {z : Int} (z1 : 0 ≤ z) (z2 : z < 2) : FX6_isLetter T (iZ z) h = some (iZ 1) := by
  unfold FX6_isLetter
  simp (disch := omega) only [zJ, zsb, q0, q1, q2, iZ_lt, iZ_le, iZ_eq, if_pos, if_neg, or_true, true_or, if_true]
theorem isLet_f {z : Int} (z1 : -2147483648 ≤ z) (z2 : z < 2147483648) (g : ¬ (0 ≤ z ∧ z < 2)) : FX6_isLetter T (iZ z) h = some (iZ 0) := by
  unfold FX6_isLetter
  by_cases c : z < 0
  · simp (disch := omega) only [zJ, zsb, q0, q1, q2, iZ_lt, iZ_le, iZ_eq, if_pos, if_neg, or_true, true_or, if_true]
  · simp (disch := omega) only [zJ, zsb, q0, q1, q2, iZ_lt, iZ_le, iZ_eq, if_pos, if_neg, or_true, true_or, if_true]
theorem letOr {z : Int} (z1 : -2147483648 ≤ z) (z2 : z < 2147483648) : FX6_letterOrNone T (iZ z) h = some (iZ (if 0 ≤ z ∧ z < 2 then z else -9)) := by
  unfold FX6_letterOrNone
  by_cases c : 0 ≤ z ∧ z < 2
  · rw [isLet_t c.1 c.2, if_pos c]
    simp (disch := omega) only [zJ, zsb, q0, iZ_eq, if_neg]
  · rw [isLet_f z1 z2 c, if_neg c]
    simp (disch := omega) only [zJ, zsb, q0, iZ_eq, if_pos]
    rfl
theorem other_eq (hS : ShAt T h b d) (hO : OkD d) {x y i l : Int} (g : inG d x y) (i1 : 0 ≤ i) (i2 : i < 2) (l1 : -2147483648 ≤ l) (l2 : l < 2147483648) : FX3_otherHasDecision T b (iZ x) (iZ y) (iZ i) (iZ l) h = some (iZ (if (0 ≤ l ∧ l < 2) ∧ dec d x y (1 - i) = l then 1 else 0)) := by
  have hd := dec_in hO g (i := 1 - i) (by omega)
  unfold FX3_otherHasDecision
  by_cases c : 0 ≤ l ∧ l < 2
  · simp (disch := omega) only [sh_zo hS, zsb, zJ, isLet_t c.1 c.2, q0, q1, iZ_sub, decision_eq hS hO g, iZ_eq, if_neg, or_true, true_or, if_true]
    by_cases c2 : dec d x y (1 - i) = l
    · rw [if_pos c2, if_pos ⟨c, c2⟩]
    · rw [if_neg c2, if_neg (fun z => c2 z.2)]
  · simp (disch := omega) only [sh_zo hS, zsb, zJ, isLet_f l1 l2 c, q0, q1, iZ_eq, if_pos, or_true, true_or, if_true]
    rw [if_neg (fun z => c z.1)]
theorem rule_eq (hS : ShAt T h b d) (hO : OkD d) {x y i : Int} (g : inG d x y) (i1 : 0 ≤ i) (i2 : i < 2) : FX3_ruleOf T b (iZ x) (iZ y) (iZ i) h = some (iZ (rul d x y i)) := by
  have h0 := dec_in hO g i1
  have h1 := dec_in hO g (i := 1 - i) (by omega)
  have hi := own_in hO g
  have hc := hO.cn g
  have d0 := decision_eq hS hO g i1 i2
  have d1 := decision_eq hS hO g (i := 1 - i) (by omega) (by omega)
  unfold FX3_ruleOf rul
  simp (disch := omega) only [sh_zo hS, zsb, zJ, d0, d1, own_eq hS hO g, marksIn_t hS hO g, q1, qm9, iZ_sub, iZ_eq]
  by_cases c1 : dec d x y i = -9
  · rw [if_pos c1, if_pos c1]
    by_cases c2 : dec d x y (1 - i) = -9
    · rw [if_pos c2, if_pos c2]
      by_cases c3 : own d x y = -9
      · rw [if_pos c3, if_pos c3]; rfl
      · rw [if_neg c3, if_neg c3]
        by_cases c4 : cn d x y = 1
        · rw [if_pos c4, if_pos c4]; rfl
        · rw [if_neg c4, if_neg c4]; rfl
    · rw [if_neg c2, if_neg c2]; rfl
  · rw [if_neg c1, if_neg c1]
theorem first_eq (hS : ShAt T h b d) (hO : OkD d) {x y l : Int} (g : inG d x y) (l1 : 0 ≤ l) (l2 : l < 2) : (∃ i : Nat, (i : Int) < cn d x y ∧ dec d x y i = -9 ∧ dec d x y (1 - i) ≠ l ∧ (∀ j : Nat, j < i → ¬ (dec d x y j = -9 ∧ dec d x y (1 - j) ≠ l)) ∧ FX3_firstToDecide T b (iZ x) (iZ y) (iZ l) h = some (iZ i)) ∨ ((∀ i : Nat, (i : Int) < cn d x y → ¬ (dec d x y i = -9 ∧ dec d x y (1 - i) ≠ l)) ∧ FX3_firstToDecide T b (iZ x) (iZ y) (iZ l) h = some (iZ (-9))) := by
  have hc := hO.cn g
  unfold FX3_firstToDecide
  rw [sh_zo hS, zsb, q0]
  refine Or.elim (loop_find (L := LX3_firstToDecide_3 T h b (iZ x) (iZ y) (iZ l) (fun (x14 : Int32) => some x14) (fun (u9 : Unit) => some (-9 : Int32))) (K0 := fun i => some (iZ i)) (K1 := some (iZ (-9))) (P := fun i => dec d x y i = -9 ∧ dec d x y (1 - i) ≠ l) (n := (cn d x y).toNat) (by omega) (fun k i hi => ?_) (fun k => ?_)) ?_ ?_
  · have h1 := dec_in hO g (i := i) (by omega)
    have d0 := decision_eq hS hO g (i := i) (by omega) (by omega)
    have ho := other_eq hS hO g (i := i) (l := l) (by omega) (by omega) (by omega) (by omega)
    rw [LX3_firstToDecide_3.eq_2]
    by_cases c1 : dec d x y i = -9
    · by_cases c2 : dec d x y (1 - i) = l
      · rw [if_pos ⟨⟨l1, l2⟩, c2⟩] at ho
        refine Or.inr ⟨fun z => z.2 c2, ?_⟩
        simp (disch := omega) only [marksIn_t hS hO g, zsb, zJ, iZ_le, if_neg, if_pos, d0, qm9, iZ_eq, ho, q0, q1, iZ_add]
      · rw [if_neg (fun z => c2 z.2)] at ho
        refine Or.inl ⟨⟨c1, c2⟩, ?_⟩
        simp (disch := omega) only [marksIn_t hS hO g, zsb, zJ, iZ_le, if_neg, if_pos, d0, qm9, iZ_eq, ho, q0, q1, iZ_add, if_true]
    · refine Or.inr ⟨fun z => c1 z.1, ?_⟩
      simp (disch := omega) only [marksIn_t hS hO g, zsb, zJ, iZ_le, if_neg, if_pos, d0, qm9, iZ_eq, q0, q1, iZ_add]
  · rw [LX3_firstToDecide_3.eq_2]
    simp (disch := omega) only [marksIn_t hS hO g, zsb, iZ_le, if_pos]
    rfl
  · rintro ⟨i, a1, a2, a3, a4⟩
    exact Or.inl ⟨i, by omega, a2.1, a2.2, a3, a4⟩
  · rintro ⟨a1, a2⟩
    exact Or.inr ⟨fun i hi => a1 i (by omega), a2⟩
/-- two loops, one in the other, that sum over the cells -/
def dcd (d : Nat → Nat → Int) (x y : Int) : Int := zsum 2 (fun i => if dec d x y i = -9 then 0 else 1)
theorem countDecided_eq (hS : ShAt T h b d) (hO : OkD d) : FX3_countDecided T b h = some (iZ (gsum d (dcd d))) := by
  obtain ⟨w1, w2, w3, w4⟩ := hO.wh
  unfold FX3_countDecided gsum
  rw [sh_zo hS, zsb, q0]
  refine (loop_sum0 (L := LX3_countDecided_4 T h b (fun (x25 : Int32) => some x25)) (K := fun v => some v) (g := fun x => zsum (d 0 1).toNat (fun y => dcd d x y)) (n := (d 0 0).toNat) (by omega) (fun k s i hi => ?_) (fun k s => ?_) 0).trans (by rw [Int.zero_add])
  · rw [LX3_countDecided_4.eq_2]
    simp (disch := omega) only [sh_g0 hS, zsb, iZ_le, if_neg]
    refine (loop_sum0 (L := LX3_countDecided_14 T h b (iZ i) (fun (x24 : Int32) => LX3_countDecided_4 T h b (fun (x25 : Int32) => some x25) k x24 (iZ i + 1))) (K := fun v => LX3_countDecided_4 T h b (fun (x25 : Int32) => some x25) k v (iZ i + 1)) (g := fun y => dcd d i y) (n := (d 0 1).toNat) (by omega) (fun k2 s2 j hj => ?_) (fun k2 s2 => ?_) s).trans (by rw [q1, iZ_add])
    · rw [LX3_countDecided_14.eq_2]
      have g : inG d i j := ⟨by omega, by omega, by omega, by omega⟩
      simp (disch := omega) only [sh_g1 hS, zsb, iZ_le, if_neg]
      refine (loop_sum0 (L := LX3_countDecided_25 T h b (iZ i) (iZ j) (fun (x23 : Int32) => LX3_countDecided_14 T h b (iZ i) (fun (x24 : Int32) => LX3_countDecided_4 T h b (fun (x25 : Int32) => some x25) k x24 (iZ i + 1)) k2 x23 (iZ j + 1))) (K := fun v => LX3_countDecided_14 T h b (iZ i) (fun (x24 : Int32) => LX3_countDecided_4 T h b (fun (x25 : Int32) => some x25) k x24 (iZ i + 1)) k2 v (iZ j + 1)) (g := fun m => if dec d i j m = -9 then 0 else 1) (n := 2) (by omega) (fun k3 s3 m hm => ?_) (fun k3 s3 => ?_) s2).trans (by unfold dcd; rw [q1, iZ_add, iZ_add])
      · rw [LX3_countDecided_25.eq_2]
        have hd := dec_in hO g (i := m) (by omega)
        simp (disch := omega) only [q2, zsb, zJ, iZ_le, if_neg, decision_eq hS hO g, iZ_add, q1, q0, qm9, iZ_eq]
        by_cases c : dec d i j m = -9
        · rw [if_pos c, if_pos c]
        · rw [if_neg c, if_neg c]
      · rw [LX3_countDecided_25.eq_2]
        rw [q2, if_pos ((iZ_le (by omega) (by omega) (by omega) (by omega)).mpr (by omega))]
    · rw [LX3_countDecided_14.eq_2]
      simp (disch := omega) only [sh_g1 hS, zsb, iZ_le, if_pos]
  · rw [LX3_countDecided_4.eq_2]
    simp (disch := omega) only [sh_g0 hS, zsb, iZ_le, if_pos]
def fll (d : Nat → Nat → Int) (x y : Int) : Int := if cn d x y < 2 then 0 else 1
theorem countFull_eq (hS : ShAt T h b d) (hO : OkD d) : FX3_countFullCells T b h = some (iZ (gsum d (fll d))) := by
  obtain ⟨w1, w2, w3, w4⟩ := hO.wh
  unfold FX3_countFullCells gsum
  rw [sh_zo hS, zsb, q0]
  refine (loop_sum0 (L := LX3_countFullCells_4 T h b (fun (x20 : Int32) => some x20)) (K := fun v => some v) (g := fun x => zsum (d 0 1).toNat (fun y => fll d x y)) (n := (d 0 0).toNat) (by omega) (fun k s i hi => ?_) (fun k s => ?_) 0).trans (by rw [Int.zero_add])
  · rw [LX3_countFullCells_4.eq_2]
    simp (disch := omega) only [sh_g0 hS, zsb, iZ_le, if_neg]
    refine (loop_sum0 (L := LX3_countFullCells_14 T h b (iZ i) (fun (x19 : Int32) => LX3_countFullCells_4 T h b (fun (x20 : Int32) => some x20) k x19 (iZ i + 1))) (K := fun v => LX3_countFullCells_4 T h b (fun (x20 : Int32) => some x20) k v (iZ i + 1)) (g := fun y => fll d i y) (n := (d 0 1).toNat) (by omega) (fun k2 s2 j hj => ?_) (fun k2 s2 => ?_) s).trans (by rw [q1, iZ_add])
    · rw [LX3_countFullCells_14.eq_2]
      have g : inG d i j := ⟨by omega, by omega, by omega, by omega⟩
      unfold fll
      by_cases c : cn d i j < 2
      · simp (disch := omega) only [sh_g1 hS, zsb, zJ, iZ_le, if_neg, if_pos, hasRoom_t hS hO g c, iZ_add, q1, q0, iZ_eq]
      · simp (disch := omega) only [sh_g1 hS, zsb, zJ, iZ_le, if_neg, if_pos, if_true, hasRoom_f hS hO (x := i) (y := j) (by omega) (by omega) (by omega) (by omega) (fun z => c z.2), iZ_add, q1, q0, iZ_eq]
    · rw [LX3_countFullCells_14.eq_2]
      simp (disch := omega) only [sh_g1 hS, zsb, iZ_le, if_pos]
  · rw [LX3_countFullCells_4.eq_2]
    simp (disch := omega) only [sh_g0 hS, zsb, iZ_le, if_pos]
def colR (d : Nat → Nat → Int) (x : Int) : Prop := ∃ y, inG d x y ∧ cn d x y < 2
theorem colRoom_eq (hS : ShAt T h b d) (hO : OkD d) {x : Int} (x1 : -2147483648 ≤ x) (x2 : x < 2147483648) : (colR d x ∧ FX3_columnHasRoom T b (iZ x) h = some (iZ 1)) ∨ (¬ colR d x ∧ FX3_columnHasRoom T b (iZ x) h = some (iZ 0)) := by
  obtain ⟨w1, w2, w3, w4⟩ := hO.wh
  unfold FX3_columnHasRoom
  rw [sh_zo hS, zsb, q0]
  refine Or.elim (loop_find (L := LX3_columnHasRoom_2 T h b (iZ x) (fun (u9 : Unit) => some 1) (fun (u9 : Unit) => some (iZ 0))) (K0 := fun i => some (iZ 1)) (K1 := some (iZ 0)) (P := fun y => inG d x y ∧ cn d x y < 2) (n := (d 0 1).toNat) (by omega) (fun k i hi => ?_) (fun k => ?_)) ?_ ?_
  · rw [LX3_columnHasRoom_2.eq_2]
    by_cases c : inG d x i ∧ cn d x i < 2
    · refine Or.inl ⟨c, ?_⟩
      simp (disch := omega) only [sh_g1 hS, zsb, iZ_le, if_neg, hasRoom_t hS hO c.1 c.2, q0, iZ_eq]
      rfl
    · refine Or.inr ⟨c, ?_⟩
      simp (disch := omega) only [sh_g1 hS, zsb, iZ_le, if_neg, if_pos, if_true, hasRoom_f hS hO x1 x2 (y := i) (by omega) (by omega) c, q0, q1, iZ_eq, iZ_add]
  · rw [LX3_columnHasRoom_2.eq_2]
    simp (disch := omega) only [sh_g1 hS, zsb, iZ_le, if_pos]
  · rintro ⟨i, a1, a2, a3, a4⟩
    exact Or.inl ⟨⟨i, a2⟩, a4⟩
  · rintro ⟨a1, a2⟩
    refine Or.inr ⟨fun z => ?_, a2⟩
    obtain ⟨y, g, c⟩ := z
    have e : ((y.toNat : Nat) : Int) = y := by have := g.2.2; omega
    exact a1 y.toNat (by have := g.2.2; omega) (by rw [e]; exact ⟨g, c⟩)
def anyR (d : Nat → Nat → Int) : Prop := ∃ x, colR d x
theorem anyRoom_eq (hS : ShAt T h b d) (hO : OkD d) : (anyR d ∧ FX3_hasRoomAnywhere T b h = some (iZ 1)) ∨ (¬ anyR d ∧ FX3_hasRoomAnywhere T b h = some (iZ 0)) := by
  obtain ⟨w1, w2, w3, w4⟩ := hO.wh
  unfold FX3_hasRoomAnywhere
  rw [sh_zo hS, zsb, q0]
  refine Or.elim (loop_find (L := LX3_hasRoomAnywhere_2 T h b (fun (u9 : Unit) => some 1) (fun (u9 : Unit) => some (iZ 0))) (K0 := fun i => some (iZ 1)) (K1 := some (iZ 0)) (P := fun x => colR d x) (n := (d 0 0).toNat) (by omega) (fun k i hi => ?_) (fun k => ?_)) ?_ ?_
  · rw [LX3_hasRoomAnywhere_2.eq_2]
    rcases colRoom_eq hS hO (x := i) (by omega) (by omega) with ⟨c, e⟩ | ⟨c, e⟩
    · refine Or.inl ⟨c, ?_⟩
      simp (disch := omega) only [sh_g0 hS, zsb, iZ_le, if_neg, e, q0, iZ_eq]
      rfl
    · refine Or.inr ⟨c, ?_⟩
      simp (disch := omega) only [sh_g0 hS, zsb, iZ_le, if_neg, if_pos, if_true, e, q0, q1, iZ_eq, iZ_add]
  · rw [LX3_hasRoomAnywhere_2.eq_2]
    simp (disch := omega) only [sh_g0 hS, zsb, iZ_le, if_pos]
  · rintro ⟨i, a1, a2, a3, a4⟩
    exact Or.inl ⟨⟨i, a2⟩, a4⟩
  · rintro ⟨a1, a2⟩
    refine Or.inr ⟨fun z => ?_, a2⟩
    obtain ⟨x, y, g, c⟩ := z
    have e : ((x.toNat : Nat) : Int) = x := by have := g.1; omega
    exact a1 x.toNat (by have := g.1; have := g.2.1; omega) (by rw [e]; exact ⟨y, g, c⟩)
end Rd
