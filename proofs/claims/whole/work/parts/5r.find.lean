/-! call: find -/
def BWd (w : Nat → Nat → Int) (i : Int) (z : Int) (m : Nat) : Prop := ∀ t : Nat, t < m → wsg w i t = z / p100 (m - 1 - t) % 100
section Fi
variable {T : zT} {h : zH}
theorem begins6 {w : Nat → Nat → Int} {R B : Nat} {wn : Nat → Int} (hV : RdAt T h R w) (oW : RdOk w 81) (sW : SO w) (gW : SgIn w) {i z : Int} (i1 : 0 ≤ i) (i2 : i < w 0 0) (hB : Num T h B 8 wn) {m : Nat} (m2 : m ≤ 8) (hw : ∀ t : Nat, t < m → wn (m - 1 - t) = z / p100 t % 100) : FX2_beginsWith T R (iZ i) B (iZ m) h = some (iZ (ind (BWd w i z m))) := by
  unfold FX2_beginsWith
  rw [rd_zo hV, zsn, q0]
  refine Or.elim (loop_find (L := LX2_beginsWith_3 T h R (iZ i) B (iZ m) (fun (u9 : Unit) => some (iZ 0)) (fun (u9 : Unit) => some 1)) (K0 := fun _ => some (iZ 0)) (K1 := some 1) (P := fun t => wsg w i t ≠ z / p100 (m - 1 - t) % 100) (n := m) (by omega) (fun k t ht => ?_) (fun k => ?_)) ?_ ?_
  · have a1 := wsg_sm (p := (t : Int)) sW oW gW i1 i2
    have a2 := Int.emod_nonneg (z / p100 (m - 1 - t)) (show (100 : Int) ≠ 0 by omega)
    have a3 := Int.emod_lt_of_pos (z / p100 (m - 1 - t)) (show (0 : Int) < 100 by omega)
    have e := hw (m - 1 - t) (by omega)
    rw [show m - 1 - (m - 1 - t) = t from by omega] at e
    have ha : FX1_at T B (iZ (t : Int)) h = some (iZ (z / p100 (m - 1 - t) % 100)) := by
      rw [← e]
      exact at_in hB (by omega) (by omega) (by omega)
    by_cases ce : wsg w i t = z / p100 (m - 1 - t) % 100
    · refine Or.inr ⟨fun q => q ce, ?_⟩
      rw [LX2_beginsWith_3.eq_2, if_neg (by rw [iZ_le (by omega) (by omega) (by omega) (by omega)]; omega), signAt_eq hV oW sW i1 i2 (by omega) (by omega), zsn, ha, zsn, if_pos (by rw [ce]), q1, iZ_add]
    · refine Or.inl ⟨ce, ?_⟩
      rw [LX2_beginsWith_3.eq_2, if_neg (by rw [iZ_le (by omega) (by omega) (by omega) (by omega)]; omega), signAt_eq hV oW sW i1 i2 (by omega) (by omega), zsn, ha, zsn, if_neg (by rw [iZ_eq (by omega) (by omega) (by omega) (by omega)]; exact ce)]
  · rw [LX2_beginsWith_3.eq_2, if_pos (by exact Int32.le_refl _)]
  · rintro ⟨t, t1, t2, t3, e⟩
    rw [ind_f (fun q => t2 (q t t1))]
    exact e
  · rintro ⟨t1, e⟩
    rw [ind_t (show BWd w i z m from fun t ht => Classical.not_not.mp (t1 t ht))]
    exact e
theorem power_eq {m : Nat} (hm : m ≤ 8) : FX7_power T (iZ m) h = some (lZ (p100 m)) := by
  unfold FX7_power
  refine Exists.elim (loop_st (L := fun k i (s : Int64) => LX7_power_4 T h (iZ m) (fun (x5 : Int64) => some x5) k s i) (K := fun s => some s) (I := fun j s => s = lZ (p100 j)) (n := m) (by omega) (fun k i s hi hI => ?_) (fun k s hI => ?_) (s := 1) rfl) ?_
  · refine ⟨lZ (p100 (i + 1)), ?_, rfl⟩
    show LX7_power_4 T h (iZ m) _ (k + 1) s (iZ i) = _
    rw [LX7_power_4.eq_2, if_neg (by rw [iZ_le (by omega) (by omega) (by omega) (by omega)]; omega), hI, l100, lZ_mul, q1, iZ_add]
    rfl
  · show LX7_power_4 T h (iZ m) _ (k + 1) s (iZ m) = _
    rw [LX7_power_4.eq_2, if_pos (by exact Int32.le_refl _)]
  · rintro s ⟨e1, e2⟩
    rw [q0, e1, e2]
theorem in64_t {p m n : Int} (p1 : -9223372036854775808 ≤ p) (p2 : p < 9223372036854775808) (m1 : -9223372036854775808 ≤ m) (m2 : m < 9223372036854775808) (n1 : -9223372036854775808 ≤ n) (n2 : n < 9223372036854775808) (g : m ≤ p ∧ p ≤ n) : FX7_in T (lZ p) (lZ m) (lZ n) h = some (iZ 1) := by
  unfold FX7_in
  simp only [lg_lt, lg_gt]
  simp (disch := omega) only [zJ, lZ_lt, q0, q1, iZ_eq, if_neg, or_true, true_or, if_true]
theorem in64_f {p m n : Int} (p1 : -9223372036854775808 ≤ p) (p2 : p < 9223372036854775808) (m1 : -9223372036854775808 ≤ m) (m2 : m < 9223372036854775808) (n1 : -9223372036854775808 ≤ n) (n2 : n < 9223372036854775808) (g : ¬ (m ≤ p ∧ p ≤ n)) : FX7_in T (lZ p) (lZ m) (lZ n) h = some (iZ 0) := by
  unfold FX7_in
  simp only [lg_lt, lg_gt]
  by_cases c : p < m
  · simp (disch := omega) only [zJ, lZ_lt, q0, q1, iZ_eq, if_pos, or_true, true_or, if_true]
  · simp (disch := omega) only [zJ, lZ_lt, q0, q1, iZ_eq, if_pos, if_neg, or_true, true_or, if_true]
/-- the reference's check of the signs -/
theorem areS7 {m : Nat} (m1 : 1 ≤ m) (m2 : m ≤ 8) {z : Int} (z1 : -9223372036854775808 ≤ z) (z2 : z < 9223372036854775808) : FX7_areSigns T (iZ m) (lZ z) h = some (iZ (ind ((0 ≤ z ∧ z ≤ p100 m - 1) ∧ ∀ t : Nat, t < m → ¬ 26 < z / p100 t % 100))) := by
  have hp := p100_in m2
  unfold FX7_areSigns
  simp only [zJn]
  rw [iZ_long (by omega) (by omega), l1, l8, in_t (by omega) (by omega) (by omega) (by omega) (by omega) (by omega) (by omega), zsn, q0, if_neg (by decide), power_eq m2, zsn, lZ_sub, l0]
  by_cases g : 0 ≤ z ∧ z ≤ p100 m - 1
  case neg =>
    rw [in64_f z1 z2 (by omega) (by omega) (by omega) (by omega) g, zsn, if_pos rfl, show FUEL = 9999 + 1 from rfl, LX7_areSigns_38.eq_2, if_neg (by rw [iZ_le (by omega) (by omega) (by omega) (by omega)]; omega), q0, if_pos rfl, if_pos (Or.inl rfl), ind_f (fun w => g w.1)]
  rw [in64_t z1 z2 (by omega) (by omega) (by omega) (by omega) g, zsn, if_neg (by decide), q1]
  have step : ∀ (k t : Nat) (K : Int32 → Option Int32), t < m → LX7_areSigns_38 T h (iZ m) K (k + 1) (iZ 1) (lZ (z / p100 t)) (iZ t) = LX7_areSigns_38 T h (iZ m) K k (iZ (if 26 < z / p100 t % 100 then 0 else 1)) (lZ (z / p100 (t + 1))) (iZ ((t : Int) + 1)) := fun k t K ht => by
    have h0 := p100_pos t
    have h1 : 0 ≤ z / p100 t := Int.ediv_nonneg g.1 (by omega)
    have h2 : z / p100 t ≤ z := Int.ediv_le_self _ g.1
    rw [LX7_areSigns_38.eq_2, if_neg (by rw [iZ_le (by omega) (by omega) (by omega) (by omega)]; omega), q0, if_neg (by decide)]
    simp only [zJn]
    rw [l100, zremL_lZ h1 (by omega) (by omega) (by omega), zsn, zdivL_lZ h1 (by omega) (by omega) (by omega), zsn, zsn, q1, iZ_add, ← div_p, l26]
    by_cases c : 26 < z / p100 t % 100
    · rw [if_pos (by rw [← q0, lg_gt, lZ_lt (by omega) (by omega) (by omega) (by omega)]; exact c), if_pos c]
    · rw [if_neg (by rw [← q0, lg_gt, lZ_lt (by omega) (by omega) (by omega) (by omega)]; exact c), if_neg c]
  have key : ∀ (q t k : Nat) (K : Int32 → Option Int32), t + q = m → q + 2 < k → LX7_areSigns_38 T h (iZ m) K k (iZ 1) (lZ (z / p100 t)) (iZ t) = K (iZ (ind (∀ s : Nat, t ≤ s → s < m → ¬ 26 < z / p100 s % 100))) := by
    intro q
    induction q with
    | zero =>
      intro t k K h1 h2
      obtain ⟨k, rfl⟩ : ∃ u, k = u + 1 := ⟨k - 1, by omega⟩
      have e : t = m := by omega
      rw [LX7_areSigns_38.eq_2, e, if_pos (by exact Int32.le_refl _), ind_t (fun s s1 s2 => by omega)]
    | succ q ih =>
      intro t k K h1 h2
      obtain ⟨k, rfl⟩ : ∃ u, k = u + 1 := ⟨k - 1, by omega⟩
      rw [step k t K (by omega)]
      by_cases c : 26 < z / p100 t % 100
      · obtain ⟨k, rfl⟩ : ∃ u, k = u + 1 := ⟨k - 1, by omega⟩
        rw [if_pos c, ind_f (fun w => w t (by omega) (by omega) c), LX7_areSigns_38.eq_2, q0, if_pos (show iZ 0 = iZ 0 from rfl)]
        by_cases c2 : iZ (m : Int) ≤ iZ ((t : Int) + 1)
        · rw [if_pos c2]
        · rw [if_neg c2]
      · have hi := ih (t + 1) k K (by omega) (by omega)
        rw [show ((t + 1 : Nat) : Int) = (t : Int) + 1 from rfl] at hi
        rw [if_neg c, hi]
        by_cases c2 : ∀ s : Nat, t + 1 ≤ s → s < m → ¬ 26 < z / p100 s % 100
        · rw [ind_t c2, ind_t (fun s s1 s2 => by
            by_cases c3 : s = t
            · rw [c3]; exact c
            · exact c2 s (by omega) s2)]
        · rw [ind_f c2, ind_f (fun w => c2 (fun s s1 s2 => w s (by omega) s2))]
  have e := key m 0 FUEL (fun (x12 : Int32) => if x12 = iZ 0 ∨ x12 = iZ 1 then some x12 else none) (by omega) (by unfold FUEL; omega)
  rw [show z / p100 0 = z from Int.ediv_one z] at e
  refine Eq.trans (show _ = _ from e) ?_
  have ei : (∀ s : Nat, 0 ≤ s → s < m → ¬ 26 < z / p100 s % 100) ↔ (∀ t : Nat, t < m → ¬ 26 < z / p100 t % 100) := ⟨fun w t ht => w t (by omega) ht, fun w s _ hs => w s hs⟩
  by_cases c : ∀ t : Nat, t < m → ¬ 26 < z / p100 t % 100
  · rw [ind_t (ei.mpr c), ind_t ⟨g, c⟩, if_pos (Or.inr rfl)]
  · rw [ind_f (fun w => c (ei.mp w)), ind_f (fun w => c w.2), if_pos (Or.inl rfl)]
end Fi
