/-! the reference's counts over a page -/
def onP (d : Nat → Nat → Int) (f : Int → Int → Int) (j : Nat) : Int := if ((j % 9 : Nat) : Int) < d 0 0 ∧ ((j / 9 : Nat) : Int) < d 0 1 then f (j % 9 : Nat) (j / 9 : Nat) else 0
theorem page_sum {d : Nat → Nat → Int} (hO : OkD d) (f : Int → Int → Int) : zsum 81 (onP d f) = gsum d f := by
  obtain ⟨w1, w2, w3, w4⟩ := hO.wh
  have e1 : zsum 81 (onP d f) = zsum 9 (fun y => zsum 9 (fun x => onP d f (9 * y + x))) := zsum_mul 9 9
  rw [e1, zsum_swap 9 9]
  unfold gsum
  rw [zsum_cut (m := (d 0 0).toNat) 9 w3 (fun x h1 h2 => zsum_zero 9 (fun y hy => ?_))]
  · refine zsum_congr _ (fun x hx => ?_)
    rw [zsum_cut (m := (d 0 1).toNat) 9 w4 (fun y h1 h2 => ?_)]
    · refine zsum_congr _ (fun y hy => ?_)
      unfold onP
      rw [show (9 * y + x) % 9 = x by omega, show (9 * y + x) / 9 = y by omega, if_pos ⟨by omega, by omega⟩]
    · unfold onP
      rw [show (9 * y + x) % 9 = x by omega, show (9 * y + x) / 9 = y by omega, if_neg (by omega)]
  · unfold onP
    rw [show (9 * y + x) % 9 = x by omega, show (9 * y + x) / 9 = y by omega, if_neg (by omega)]
theorem onP_in {d : Nat → Nat → Int} {f : Int → Int → Int} {j : Nat} (g : inG d (j % 9 : Nat) (j / 9 : Nat)) : onP d f j = f (j % 9 : Nat) (j / 9 : Nat) := if_pos ⟨g.2.1, g.2.2.2⟩
theorem onP_out {d : Nat → Nat → Int} {f : Int → Int → Int} {j : Nat} (g : ¬ inG d (j % 9 : Nat) (j / 9 : Nat)) : onP d f j = 0 := if_neg (fun z => g ⟨by omega, z.1, by omega, z.2⟩)
theorem inG_em (d : Nat → Nat → Int) (x y : Int) : inG d x y ∨ ¬ inG d x y := Classical.em _
theorem cel_j (j : Nat) : cel (j % 9 : Nat) (j / 9 : Nat) = 10 + 9 * (j : Int) := by unfold cel; omega
/-- a loop that joins answers -/
theorem loop_or {ρ : Type} {L : Nat → Int32 → Int32 → Option ρ} {K : Int32 → Option ρ} {P : Nat → Prop} {n : Nat} (hn : n < 9999) (hs : ∀ (k : Nat) (s : Int) (i : Nat), i < n → (s = 0 ∨ s = 1) → (P i ∧ L (k + 1) (iZ s) (iZ i) = L k (iZ 1) (iZ (i + 1))) ∨ (¬ P i ∧ L (k + 1) (iZ s) (iZ i) = L k (iZ s) (iZ (i + 1)))) (he : ∀ (k : Nat) (s : Int32), L (k + 1) s (iZ n) = K s) :
    ((∃ i, i < n ∧ P i) ∧ L FUEL (iZ 0) (iZ 0) = K (iZ 1)) ∨ ((∀ i, i < n → ¬ P i) ∧ L FUEL (iZ 0) (iZ 0) = K (iZ 0)) := by
  have key : ∀ (k : Nat) (s : Int) (i : Nat), (s = 0 ∨ s = 1) → i ≤ n → n - i < k → ((s = 1 ∨ ∃ m, i ≤ m ∧ m < n ∧ P m) ∧ L k (iZ s) (iZ i) = K (iZ 1)) ∨ ((s = 0 ∧ ∀ m, i ≤ m → m < n → ¬ P m) ∧ L k (iZ s) (iZ i) = K (iZ 0)) := by
    intro k
    induction k with
    | zero => intro s i _ _ h; omega
    | succ k ih =>
      intro s i h0 hi hk
      have e2 : ((i + 1 : Nat) : Int) = (i : Int) + 1 := rfl
      by_cases h : i = n
      · subst h
        rw [he k]
        rcases h0 with rfl | rfl
        · exact Or.inr ⟨⟨rfl, fun m h1 h2 => by omega⟩, rfl⟩
        · exact Or.inl ⟨Or.inl rfl, rfl⟩
      · rcases hs k s i (by omega) h0 with ⟨hp, e⟩ | ⟨hp, e⟩
        · rw [e]
          have h9 := ih 1 (i + 1) (Or.inr rfl) (by omega) (by omega)
          rw [e2] at h9
          rcases h9 with ⟨-, g⟩ | ⟨⟨z, -⟩, -⟩
          · exact Or.inl ⟨Or.inr ⟨i, by omega, by omega, hp⟩, g⟩
          · omega
        · rw [e]
          have h9 := ih s (i + 1) h0 (by omega) (by omega)
          rw [e2] at h9
          rcases h9 with ⟨h2 | ⟨m, a1, a2, a3⟩, g⟩ | ⟨⟨z, z2⟩, g⟩
          · exact Or.inl ⟨Or.inl h2, g⟩
          · exact Or.inl ⟨Or.inr ⟨m, by omega, a2, a3⟩, g⟩
          · refine Or.inr ⟨⟨z, fun m h1 h2 => ?_⟩, g⟩
            by_cases hj : m = i
            · rw [hj]; exact hp
            · exact z2 m (by omega) h2
  have h := key FUEL 0 0 (Or.inl rfl) (by omega) (by unfold FUEL; omega)
  rw [show ((0 : Nat) : Int) = 0 from rfl] at h
  rcases h with ⟨h2 | ⟨m, a1, a2, a3⟩, g⟩ | ⟨⟨z, z2⟩, g⟩
  · omega
  · exact Or.inl ⟨⟨m, a2, a3⟩, g⟩
  · exact Or.inr ⟨fun m hm => z2 m (by omega) hm, g⟩
section Ct
variable {T : zT} {h : zH} {a : Nat} {r : Nat → Int} {d : Nat → Nat → Int}
theorem belongs_eq (hA : Arr T h a 739 r) (hP : Pg d r) (hO : OkD d) {x y i : Int} (g : inG d x y) (i1 : 0 ≤ i) (i2 : i < cn d x y) : FX7_belongs T a (iZ (cel x y)) (iZ i) h = some (iZ (ownof d x y i)) := by
  have hcn := hO.cn g
  obtain ⟨r1, r2, r3, r4, r5⟩ := rlv_50 hO g i1 (by omega) (by omega)
  have e2 : zai T h a (iZ 2) = some (iZ (d 0 2)) := by rw [zai_p hA (by omega) (by omega), ← hP.2]; rfl
  unfold FX7_belongs
  by_cases c : own d x y = -9
  · simp (disch := omega) only [zsb, zJ, q2, e2, rule7_eq hA hP.1 hO g i1 i2, q50, iZ_eq, if_pos]
    unfold ownof
    rw [if_pos (Or.inr c), c]
    rfl
  · have r6 := r5 c
    simp (disch := omega) only [zsb, zJ, q2, e2, rule7_eq hA hP.1 hO g i1 i2, q50, q10, iZ_eq, if_neg, zremI_iZ, r6]
theorem page_c (hA : Arr T h a 739 r) (hP : PgM d r) {j : Nat} (hj : j < 81) : zai T h a (iZ (10 + 9 * (j : Int))) = some (iZ (onP d (cn d) j)) := by
  rw [zai_p hA (by omega) (by omega), ← cel_j]
  rcases inG_em d (j % 9 : Nat) (j / 9 : Nat) with g | g
  · rw [onP_in g, hP.c _ _ g]
  · rw [onP_out g, hP.o _ _ (by omega) (by omega) (by omega) (by omega) g]
theorem marksOf_eq (hA : Arr T h a 739 r) (hP : PgM d r) (hO : OkD d) : FX7_marksOf T a h = some (iZ (gsum d (cn d))) := by
  unfold FX7_marksOf
  rw [q0]
  refine (loop_sum0 (L := LX7_marksOf_4 T h a (fun (x6 : Int32) => some x6)) (K := fun v => some v) (g := onP d (cn d)) (n := 81) (by omega) (fun k s j hj => ?_) (fun k s => ?_) 0).trans (by rw [Int.zero_add, page_sum hO])
  · rw [LX7_marksOf_4.eq_2]
    simp (disch := omega) only [q81, q9, q10, q1, iZ_le, if_neg, iZ_mul, iZ_add, page_c hA hP hj, zsb]
  · rw [LX7_marksOf_4.eq_2]
    rw [q81]
    simp (disch := omega) only [iZ_le, if_pos]
/-- a sum over the marks of a cell; one over all -/
theorem cell_loop {ρ : Type} {L : Nat → Int32 → Int32 → Option ρ} {K : Int32 → Option ρ} (hP : PgM d r) (hO : OkD d) {f : Int → Int → Int → Int} {j : Nat} (hj : j < 81) (hs : ∀ (k : Nat) (s : Int) (i : Nat) (x y : Int), inG d x y → (i : Int) < cn d x y → cel x y = 10 + 9 * (j : Int) → onP d (cn d) j = cn d x y → L (k + 1) (iZ s) (iZ i) = L k (iZ (s + f x y i)) (iZ (i + 1))) (he : ∀ (k : Nat) (s : Int), L (k + 1) (iZ s) (iZ (onP d (cn d) j)) = K (iZ s)) (s : Int) : L FUEL (iZ s) (iZ 0) = K (iZ (s + onP d (fun x y => zsum (cn d x y).toNat (fun i => f x y i)) j)) := by
  rcases inG_em d (j % 9 : Nat) (j / 9 : Nat) with g | g
  · have hcn := hO.cn g
    have e1 : onP d (cn d) j = ((cn d (j % 9 : Nat) (j / 9 : Nat)).toNat : Nat) := by rw [onP_in g]; omega
    refine (loop_sum0 (L := L) (K := K) (g := fun i => f (j % 9 : Nat) (j / 9 : Nat) i) (n := (cn d (j % 9 : Nat) (j / 9 : Nat)).toNat) (by omega) (fun k s i hi => ?_) (fun k s => ?_) s).trans ?_
    · exact hs k s i _ _ g (by omega) (cel_j j) (onP_in g)
    · rw [← e1]; exact he k s
    · rw [onP_in g]
  · have e1 : onP d (cn d) j = 0 := onP_out g
    have h9 := he 9999 s
    rw [e1] at h9
    rw [onP_out g, Int.add_zero]
    exact h9
theorem dbt_sum (hO : OkD d) {x y : Int} (g : inG d x y) : zsum (cn d x y).toNat (fun i => if rlv d x y i = 50 then 1 else 0) = dbt d x y := by
  have hcn := hO.cn g
  unfold dbt
  by_cases c : own d x y = -9
  · rw [if_pos c]
    have e : zsum (cn d x y).toNat (fun i => if rlv d x y i = 50 then 1 else 0) = zsum (cn d x y).toNat (fun _ => (1 : Int)) := zsum_congr _ (fun i hi => if_pos ((rlv_50 hO g (by omega) (by omega) (by omega)).1.mpr c))
    rw [e]
    rcases (show cn d x y = 0 ∨ cn d x y = 1 ∨ cn d x y = 2 by omega) with q | q | q <;> rw [q] <;> rfl
  · rw [if_neg c]
    exact zsum_zero _ (fun i hi => if_neg (fun z => c ((rlv_50 hO g (by omega) (by omega) (by omega)).1.mp z)))
theorem gsum_congr (hO : OkD d) {f g : Int → Int → Int} (h : ∀ x y, inG d x y → f x y = g x y) : gsum d f = gsum d g := by
  obtain ⟨w1, w2, w3, w4⟩ := hO.wh
  exact zsum_congr _ (fun x hx => zsum_congr _ (fun y hy => h _ _ ⟨by omega, by omega, by omega, by omega⟩))
theorem doubtsBy_eq (hA : Arr T h a 739 r) (hP : PgM d r) (hO : OkD d) : FX7_doubtsBy T a (iZ (d 0 2)) h = some (iZ (gsum d (dbt d))) := by
  unfold FX7_doubtsBy
  rw [q0]
  refine (loop_sum0 (L := LX7_doubtsBy_4 T h a (iZ (d 0 2)) (fun (x20 : Int32) => some x20)) (K := fun v => some v) (g := onP d (fun x y => zsum (cn d x y).toNat (fun i => if rlv d x y i = 50 then 1 else 0))) (n := 81) (by omega) (fun k s j hj => ?_) (fun k s => ?_) 0).trans ?_
  · rw [LX7_doubtsBy_4.eq_2]
    have pc := page_c hA hP hj
    simp (disch := omega) only [q81, q9, q10, q1, iZ_le, if_neg, iZ_mul, iZ_add]
    refine (cell_loop (L := LX7_doubtsBy_22 T h a (iZ (d 0 2)) (iZ j) (iZ (10 + 9 * (j : Int))) (fun (x19 : Int32) => LX7_doubtsBy_4 T h a (iZ (d 0 2)) (fun (x20 : Int32) => some x20) k x19 (iZ ((j : Int) + 1)))) (K := fun v => LX7_doubtsBy_4 T h a (iZ (d 0 2)) (fun (x20 : Int32) => some x20) k v (iZ ((j : Int) + 1))) hP hO (f := fun x y i => if rlv d x y i = 50 then 1 else 0) hj (fun k2 s2 i x y g i2 ec en => ?_) (fun k2 s2 => ?_) s)
    · rw [LX7_doubtsBy_22.eq_2]
      have hcn := hO.cn g
      obtain ⟨r1, r2, r3, r4, r5⟩ := rlv_50 hO g (i := i) (by omega) (by omega) (by omega)
      have er := rule7_eq hA hP hO g (i := i) (by omega) i2
      rw [ec] at er
      rw [en] at pc
      simp (disch := omega) only [pc, zsb, zJ, iZ_le, if_neg, er, q50, iZ_eq, q0, q1, iZ_add]
      by_cases c : rlv d x y i = 50
      · rw [if_pos c, if_pos c]
      · rw [if_neg c, if_neg c]
    · rw [LX7_doubtsBy_22.eq_2]
      rw [pc, zsb, if_pos (by show _ ≤ _; exact Int32.le_refl _)]
  · rw [LX7_doubtsBy_4.eq_2]
    rw [q81]
    simp (disch := omega) only [iZ_le, if_pos]
  · rw [Int.zero_add, page_sum hO, gsum_congr hO (fun x y g => dbt_sum hO g)]
theorem doubts_eq (hA : Arr T h a 739 r) (hP : Pg d r) (hO : OkD d) : FX7_doubts T a h = some (iZ (gsum d (dbt d))) := by
  have e2 : zai T h a (iZ 2) = some (iZ (d 0 2)) := by rw [zai_p hA (by omega) (by omega), ← hP.2]; rfl
  unfold FX7_doubts
  simp only [q2, e2, zsb, doubtsBy_eq hA hP.1 hO]
theorem canDecide_eq (hA : Arr T h a 739 r) (hP : PgM d r) (hO : OkD d) {x y i z : Int} (g : inG d x y) (i1 : 0 ≤ i) (i2 : i < cn d x y) (z1 : 0 ≤ z) (z2 : z ≤ 2) : FX7_canDecide T a (iZ (cel x y)) (iZ i) (iZ z) h = some (iZ (if (0 ≤ z ∧ z < 2) ∧ dec d x y (1 - i) = z then 0 else 1)) := by
  have hcn := hO.cn g
  have hcl := cel_in (hO.g9 g)
  have h1 := dec_in hO g (i := 1 - i) (by omega)
  unfold FX7_canDecide
  by_cases c1 : z = 2
  · simp (disch := omega) only [zJ, q2, iZ_eq, if_pos, if_neg, q1, q0, or_true, if_true]
  · by_cases c2 : cn d x y = 1
    · have e9 : dec d x y (1 - i) = -9 := dec_ge (by omega)
      simp (disch := omega) only [zJ, zsb, q2, iZ_eq, if_neg, zai_c hA hP hO g, q1, if_pos, q0, e9, or_true, if_true]
    · obtain ⟨-, -, -, n8⟩ := zai_m hA hP hO g (i := 1 - i) (by omega) (by omega)
      rw [← dec_lt (d := d) (x := x) (y := y) (i := 1 - i) (by omega)] at n8
      simp (disch := omega) only [zJ, zsb, q2, iZ_eq, if_neg, zai_c hA hP hO g, q1, iZ_sub, markAt_eq, q3, iZ_add, n8, q0, or_true, true_or, if_true]
      by_cases c3 : dec d x y (1 - i) = z
      · rw [if_pos c3, if_pos ⟨by omega, c3⟩]
      · rw [if_neg c3, if_neg (fun w => c3 w.2)]
theorem room7_eq {b : Nat} (hz : ∃ fs, zo h b 7 = some fs) (hr : zgr h b 7 4 = some a) (hA : Arr T h a 739 r) (hP : PgM d r) (hO : OkD d) {x : Int} (x1 : 0 ≤ x) (x2 : x < d 0 0) : (colR d x ∧ FX7_hasRoom T b (iZ x) h = some (iZ 1)) ∨ (¬ colR d x ∧ FX7_hasRoom T b (iZ x) h = some (iZ 0)) := by
  obtain ⟨w1, w2, w3, w4⟩ := hO.wh
  obtain ⟨fs, hz⟩ := hz
  have e1 : zai T h a (iZ 1) = some (iZ (d 0 1)) := by rw [zai_p hA (by omega) (by omega), ← hP.v]; rfl
  unfold FX7_hasRoom
  rw [hz, zsb, q0, q1]
  refine Or.elim (loop_or (L := LX7_hasRoom_4 T h b (iZ x) (fun (x15 : Int32) => if x15 = iZ 0 ∨ x15 = iZ 1 then some x15 else none)) (K := fun x15 => if x15 = iZ 0 ∨ x15 = iZ 1 then some x15 else none) (P := fun y => cn d x y < 2) (n := (d 0 1).toNat) (by omega) (fun k s i hi hs => ?_) (fun k s => ?_)) ?_ ?_
  · have g : inG d x i := ⟨x1, x2, by omega, by omega⟩
    have hcn := hO.cn g
    rw [LX7_hasRoom_4.eq_2]
    simp (disch := omega) only [hr, zsb, zJ, q1, q0, q2, e1, iZ_le, if_neg, cellAt_eq, zai_c hA hP hO g, iZ_add]
    have o0 : iZ s ||| iZ 0 = iZ s := by rcases hs with rfl | rfl <;> rfl
    have o1 : iZ s ||| iZ 1 = iZ 1 := by rcases hs with rfl | rfl <;> rfl
    rw [o0, o1]
    by_cases c : cn d x i < 2
    · exact Or.inl ⟨c, by rw [if_neg (by omega)]⟩
    · exact Or.inr ⟨c, by rw [if_pos (by omega)]⟩
  · rw [LX7_hasRoom_4.eq_2]
    simp (disch := omega) only [hr, zsb, q1, e1, iZ_le, if_pos]
  · rintro ⟨⟨i, hi, hc⟩, e⟩
    exact Or.inl ⟨⟨i, ⟨x1, x2, by omega, by omega⟩, hc⟩, e.trans (if_pos (Or.inr rfl))⟩
  · rintro ⟨hn, e⟩
    refine Or.inr ⟨?_, e.trans (if_pos (Or.inl rfl))⟩
    rintro ⟨y, g, c⟩
    have e : ((y.toNat : Nat) : Int) = y := by have := g.2.2; omega
    exact hn y.toNat (by have := g.2.2; omega) (by rw [e]; exact c)
theorem any7_eq {b : Nat} (hz : ∃ fs, zo h b 7 = some fs) (hr : zgr h b 7 4 = some a) (hA : Arr T h a 739 r) (hP : PgM d r) (hO : OkD d) : (anyR d ∧ FX7_hasAnyRoom T b h = some (iZ 1)) ∨ (¬ anyR d ∧ FX7_hasAnyRoom T b h = some (iZ 0)) := by
  obtain ⟨w1, w2, w3, w4⟩ := hO.wh
  have hz2 := hz
  obtain ⟨fs, hz⟩ := hz
  have e1 : zai T h a (iZ 0) = some (iZ (d 0 0)) := by rw [zai_p hA (by omega) (by omega), ← hP.w]; rfl
  unfold FX7_hasAnyRoom
  rw [hz, zsb, q0, q1]
  refine Or.elim (loop_or (L := LX7_hasAnyRoom_4 T h b (fun (x15 : Int32) => if x15 = iZ 0 ∨ x15 = iZ 1 then some x15 else none)) (K := fun x15 => if x15 = iZ 0 ∨ x15 = iZ 1 then some x15 else none) (P := fun x => colR d x) (n := (d 0 0).toNat) (by omega) (fun k s i hi hs => ?_) (fun k s => ?_)) ?_ ?_
  · rw [LX7_hasAnyRoom_4.eq_2]
    have o0 : iZ s ||| iZ 0 = iZ s := by rcases hs with rfl | rfl <;> rfl
    have o1 : iZ s ||| iZ 1 = iZ 1 := by rcases hs with rfl | rfl <;> rfl
    rcases room7_eq hz2 hr hA hP hO (x := i) (by omega) (by omega) with ⟨c, e⟩ | ⟨c, e⟩
    · refine Or.inl ⟨c, ?_⟩
      simp (disch := omega) only [hr, zsb, q0, q1, e1, iZ_le, if_neg, e, o1, iZ_add]
    · refine Or.inr ⟨c, ?_⟩
      simp (disch := omega) only [hr, zsb, q0, q1, e1, iZ_le, if_neg, e, o0, iZ_add]
  · rw [LX7_hasAnyRoom_4.eq_2]
    simp (disch := omega) only [hr, zsb, q0, e1, iZ_le, if_pos]
  · rintro ⟨⟨i, hi, hc⟩, e⟩
    exact Or.inl ⟨⟨i, hc⟩, e.trans (if_pos (Or.inr rfl))⟩
  · rintro ⟨hn, e⟩
    refine Or.inr ⟨?_, e.trans (if_pos (Or.inl rfl))⟩
    rintro ⟨x, y, g, c⟩
    have e : ((x.toNat : Nat) : Int) = x := by have := g.1; omega
    exact hn x.toNat (by have := g.1; have := g.2.1; omega) (by rw [e]; exact ⟨y, g, c⟩)
end Ct
