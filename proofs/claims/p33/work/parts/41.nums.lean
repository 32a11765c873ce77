/-! CrossedSheet$Numbers -/
theorem zsb {α β : Type} (a : α) (f : α → Option β) : (some a).bind f = f a := rfl
theorem zb2s {α β ρ : Type} (a : α) (b : β) (f : α → β → Option ρ) : zb2 (some (a, b)) f = f a b := rfl
theorem zo_Num {T : zT} {h : zH} {a n : Nat} {f : Nat → Int} (hN : Num T h a n f) : zo h a 1 = some [.ref (a + 1)] := zo_of hN.1
theorem zgr_Num {T : zT} {h : zH} {a n : Nat} {f : Nat → Int} (hN : Num T h a n f) : zgr h a 1 0 = some (a + 1) := by
  unfold zgr
  rw [zo_Num hN]
  rfl
theorem at_in {T : zT} {h : zH} {a n : Nat} {f : Nat → Int} (hN : Num T h a n f) (hn : n < 2147483648) {i : Int} (h1 : 0 ≤ i) (h2 : i < n) : FX1_at T a (iZ i) h = some (iZ (f i.toNat)) := by
  unfold FX1_at
  simp (disch := omega) only [zo_Num hN, zsb, zJ, zgr_Num hN, zln_Arr hN.2, zai_Arr hN.2 h1 h2 hn, q0, iZ_lt, iZ_le, if_pos, if_neg]
theorem at_out {T : zT} {h : zH} {a n : Nat} {f : Nat → Int} (hN : Num T h a n f) (hn : n < 2147483648) {i : Int} (h0 : -2147483648 ≤ i) (h3 : i < 2147483648) (h1 : ¬ (0 ≤ i ∧ i < n)) : FX1_at T a (iZ i) h = some (iZ (-9)) := by
  unfold FX1_at
  simp (disch := omega) only [zo_Num hN, zsb, zJ, zgr_Num hN, zln_Arr hN.2, q0, qm9, iZ_lt, iZ_le]
  by_cases h2 : i < 0
  · rw [if_pos h2]
  · rw [if_neg h2, if_pos (by omega)]
theorem put_in {T : zT} {h : zH} {a n : Nat} {f : Nat → Int} (hN : Num T h a n f) (hn : n < 2147483648) {i v : Int} (h1 : 0 ≤ i) (h2 : i < n) : ∃ h', FX1_put T a (iZ i) (iZ v) h = some h' ∧ Num T h' a n (upZ f i.toNat v) ∧ ∀ q, q ≠ a + 1 → h' q = h q := by
  obtain ⟨h', e1, e2, e3⟩ := zas_Arr (v := v) hN.2 h1 h2 hn
  refine ⟨h', ?_, ⟨(e3 a (by omega)).trans hN.1, e2⟩, e3⟩
  unfold FX1_put
  simp (disch := omega) only [zo_Num hN, zsb, zJ, zgr_Num hN, zln_Arr hN.2, e1, q0, iZ_lt, iZ_le, if_pos, if_neg]
theorem put_out {T : zT} {h : zH} {a n : Nat} {f : Nat → Int} (hN : Num T h a n f) (hn : n < 2147483648) {i : Int} {v : Int32} (h0 : -2147483648 ≤ i) (h3 : i < 2147483648) (h1 : ¬ (0 ≤ i ∧ i < n)) : FX1_put T a (iZ i) v h = some h := by
  unfold FX1_put
  simp (disch := omega) only [zo_Num hN, zsb, zJ, zgr_Num hN, zln_Arr hN.2, q0, iZ_lt, iZ_le]
  by_cases h2 : i < 0
  · rw [if_pos h2]
  · rw [if_neg h2, if_pos (by omega)]
theorem fill_loop {T : zT} {ρ : Type} {a n : Nat} {v : Int} {K : zH → Option ρ} (hn : n < 2147483648) : ∀ (k i : Nat) (h : zH) (f : Nat → Int), Num T h a n f → i ≤ n → n - i < k → ∃ h' f', LX1_fill_2 T a (iZ v) K k (iZ i) h = K h' ∧ Num T h' a n f' ∧ (∀ j, f' j = if i ≤ j ∧ j < n then v else f j) ∧ ∀ q, q ≠ a + 1 → h' q = h q := by
  intro k
  induction k with
  | zero => intro i h f _ _ h3; omega
  | succ k ih =>
    intro i h f hN hi hk
    rw [LX1_fill_2.eq_2]
    simp (disch := omega) only [zgr_Num hN, zsb, zln_Arr hN.2, iZ_le]
    by_cases h2 : i < n
    · obtain ⟨h1, e1, e2, e3⟩ := zas_Arr (v := v) hN.2 (i := i) (by omega) (by omega) hn
      obtain ⟨h', f', g1, g2, g3, g4⟩ := ih (i + 1) h1 _ ⟨(e3 a (by omega)).trans hN.1, e2⟩ (by omega) (by omega)
      refine ⟨h', f', ?_, g2, fun j => ?_, fun q hq => (g4 q hq).trans (e3 q hq)⟩
      · rw [if_neg (by omega), e1, q1, iZ_add]
        exact g1
      · rw [g3 j]
        unfold upZ
        have e : ((i : Int)).toNat = i := rfl
        rw [e]
        by_cases hj : j = i
        · subst hj
          rw [if_neg (by omega), if_pos rfl, if_pos (by omega)]
        · by_cases hj2 : i + 1 ≤ j ∧ j < n
          · rw [if_pos hj2, if_pos (by omega)]
          · rw [if_neg hj2, if_neg hj, if_neg (by omega)]
    · refine ⟨h, f, ?_, hN, fun j => ?_, fun q _ => rfl⟩
      · rw [if_pos (by omega)]
      · rw [if_neg (by omega)]
theorem fill_ok {T : zT} {h : zH} {a n : Nat} {f : Nat → Int} (hN : Num T h a n f) (hn : n < 9999) (v : Int) : ∃ h' f', FX1_fill T a (iZ v) h = some h' ∧ Num T h' a n f' ∧ (∀ j, j < n → f' j = v) ∧ ∀ q, q ≠ a + 1 → h' q = h q := by
  obtain ⟨h', f', g1, g2, g3, g4⟩ := fill_loop (v := v) (K := fun (h9 : zH) => some h9) (by omega) FUEL 0 h f hN (by omega) (by unfold FUEL; omega)
  refine ⟨h', f', ?_, g2, fun j hj => ?_, g4⟩
  · unfold FX1_fill
    rw [zo_Num hN, zsb]
    exact g1
  · rw [g3 j, if_pos (by omega)]
theorem zcp_all {T : zT} {h : zH} {a b n : Nat} {f g : Nat → Int} (hA : Arr T h a n f) (hB : Arr T h b n g) (hn : n < 2147483648) : ∃ h', zcp T h a 0 b 0 (iZ n) = some h' ∧ Arr T h' b n (fun j => if j < n then f j else g j) ∧ ∀ q, q ≠ b → h' q = h q := by
  refine ⟨va_up h b (some (.inl (T.1, n, .inl (fun j => iZ (if j < n then f j else g j))))), ?_, va_up_self _ _ _, fun q hq => va_up_ne _ _ hq⟩
  unfold zcp
  rw [hA, hB]
  show (if T.1 = T.1 ∧ T.1 = T.1 ∧ _ then _ else _) = _
  rw [q0]
  simp (disch := omega) only [iZ_lt, iZ_clamp]
  rw [if_pos ⟨trivial, trivial, by omega, by omega, by omega, by omega, by omega⟩]
  have e : va_cpy (fun j => iZ (f j)) (fun j => iZ (g j)) (Int.toNat 0) (Int.toNat 0) (Int.toNat (n : Int)) = fun j => iZ (if j < n then f j else g j) := by
    funext j
    show (if 0 ≤ j ∧ j < 0 + n then iZ (f (0 + (j - 0))) else iZ (g j)) = _
    by_cases hj : j < n
    · rw [if_pos (by omega), if_pos hj, Nat.zero_add, Nat.sub_zero]
    · rw [if_neg (by omega), if_neg hj]
  rw [e]
theorem take_ok {T : zT} {h : zH} {a b n : Nat} {f g : Nat → Int} (hA : Num T h a n f) (hB : Num T h b n g) (hn : n < 2147483648) : ∃ h' g', FX1_takeFrom T b a h = some h' ∧ Num T h' b n g' ∧ (∀ j, j < n → g' j = f j) ∧ ∀ q, q ≠ b + 1 → h' q = h q := by
  obtain ⟨h', e1, e2, e3⟩ := zcp_all hA.2 hB.2 hn
  refine ⟨h', _, ?_, ⟨(e3 b (by omega)).trans hB.1, e2⟩, fun j hj => if_pos hj, e3⟩
  unfold FX1_takeFrom
  simp only [zo_Num hB, zsb, zJ, zgr_Num hA, zgr_Num hB, zln_Arr hA.2, zln_Arr hB.2, e1, if_pos]
