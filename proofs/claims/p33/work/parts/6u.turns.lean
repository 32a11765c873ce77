/-! four turns are none; each keeps marks and doubts; undone -/
def tst (σ : Sg) : Nat → Sg
  | 0 => σ
  | i + 1 => acted (tst σ i) (tnF (tst σ i).1)
def ust (τ : Sg) : Nat → Sg
  | 0 => τ
  | i + 1 => undone (ust τ i)
def tuF (σ : Sg) : Sg := ust (tst σ 4) 4
section Tu
variable {α : Type} {T : zT} {hz h : zH} {b C C1 : Nat} {σ : Sg} {Q : α → zH → Prop}
theorem tst_f (hO : OkD σ.1) (hc : 0 ≤ σ.2.1) : ∀ i : Nat, OkD (tst σ i).1 ∧ gsum (tst σ i).1 (cn (tst σ i).1) = gsum σ.1 (cn σ.1) ∧ gsum (tst σ i).1 (dbt (tst σ i).1) = gsum σ.1 (dbt σ.1) ∧ (if i % 2 = 0 then (tst σ i).1 0 0 = σ.1 0 0 ∧ (tst σ i).1 0 1 = σ.1 0 1 else (tst σ i).1 0 0 = σ.1 0 1 ∧ (tst σ i).1 0 1 = σ.1 0 0) ∧ 0 ≤ (tst σ i).2.1 ∧ (i ≤ 14 → (i : Int) ≤ (tst σ i).2.1)
  | 0 => ⟨hO, rfl, rfl, ⟨rfl, rfl⟩, hc, fun _ => hc⟩
  | i + 1 => by
    obtain ⟨a1, a2, a3, a4, a5, a6⟩ := tst_f hO hc i
    have hT := tnF_turned a1
    have e0 : (tst σ (i + 1)).1 = tnF (tst σ i).1 := rfl
    have e1 : (tst σ (i + 1)).2.1 = if 14 < (tst σ i).2.1 + 1 then 14 else (tst σ i).2.1 + 1 := rfl
    rw [e0, e1]
    refine ⟨tnF_ok a1, (turned_cnt a1 hT).trans a2, (turned_dbt a1 hT).trans a3, ?_, by split <;> omega, fun z => by have := a6 (by omega); split <;> omega⟩
    have t1 := hT.1.1
    have t2 := hT.1.2.1
    by_cases c : i % 2 = 0
    · rw [if_pos c] at a4
      rw [if_neg (by omega)]
      exact ⟨t1.trans a4.2, t2.trans a4.1⟩
    · rw [if_neg c] at a4
      rw [if_pos (by omega)]
      exact ⟨t1.trans a4.2, t2.trans a4.1⟩
theorem tu_1 (σ : Sg) : (tuF σ).1 = σ.1 := rfl
theorem ust_c (τ : Sg) : ∀ i : Nat, (ust τ i).2.1 = τ.2.1 - i
  | 0 => by show τ.2.1 = τ.2.1 - 0; omega
  | i + 1 => by
    show (ust τ i).2.1 - 1 = τ.2.1 - ((i + 1 : Nat) : Int)
    rw [ust_c τ i]; omega
set_option maxHeartbeats 4000000 in
set_option maxRecDepth 10000 in
theorem t31 {K0 : Int32 → zH → Option (α × zH × Nat)} {x18 : Int64} (O : Ob T hz h b σ) (hK : ∀ h', Ob T hz h' b (tst σ 4) → Gd (K0 (iZ 1) h') C1 Q) : Gd (LL_turns_31 T b x18 (iZ (σ.1 0 0)) (iZ (gsum σ.1 (dbt σ.1))) (iZ (gsum σ.1 (cn σ.1))) K0 FUEL (iZ 1) (iZ 0) h) (C1 + 28) Q := by
  have hO := O.ok
  have hc := O.cnt
  refine gd_loop (L := fun k i (s : Int32 × zH) => LL_turns_31 T b x18 (iZ (σ.1 0 0)) (iZ (gsum σ.1 (dbt σ.1))) (iZ (gsum σ.1 (cn σ.1))) K0 k s.1 i s.2) (I := fun i (s : Int32 × zH) => s.1 = iZ 1 ∧ Ob T hz s.2 b (tst σ i)) (n := 4) (c := 7) (C1 := C1) (by omega) (fun k i s D hi hI kk => ?_) (fun k s hI => ?_) (iZ 1, h) ⟨rfl, O⟩
  · obtain ⟨s1, h⟩ := s
    obtain ⟨e1, O⟩ := hI
    replace e1 : s1 = iZ 1 := e1
    subst e1
    replace O : Ob T hz h b (tst σ i) := O
    replace kk : ∀ h', Ob T hz h' b (tst σ (i + 1)) → Gd (LL_turns_31 T b x18 (iZ (σ.1 0 0)) (iZ (gsum σ.1 (dbt σ.1))) (iZ (gsum σ.1 (cn σ.1))) K0 k (iZ 1) (iZ ((i : Int) + 1)) h') D Q := fun h' O' => kk (iZ 1, h') ⟨rfl, O'⟩
    show Gd (LL_turns_31 T b x18 (iZ (σ.1 0 0)) (iZ (gsum σ.1 (dbt σ.1))) (iZ (gsum σ.1 (cn σ.1))) K0 (k + 1) (iZ 1) (iZ i) h) (D + 7) Q
    obtain ⟨f1, f2, f3, f4, -, -⟩ := tst_f hO hc.1 (i + 1)
    rw [LL_turns_31]
    simp only [q0, q1, q2, q3, q4]
    refine gd_f (fun w => by have := (iZ_le (by omega) (by omega) (by omega) (by omega)).1 w; omega) ?_
    refine gd_J (fun J => ∀ h, Ob T hz h b (tst σ (i + 1)) → Gd (J (iZ 1) (iZ 1) h) D Q) (fun h O => ?_) (fun J28 hJ28 => ?_)
    · rw [show iZ 1 &&& iZ 1 = iZ 1 by decide, iZ_add]
      exact kk h O
    · refine gd_J (fun _ => True) trivial (fun J31 _ => ?_)
      obtain ⟨h1, et, O⟩ := k_turn O
      refine gd_b2 et ?_
      replace O : Ob T hz h1 b (tst σ (i + 1)) := O
      refine gd_cl (ca3 (k_letter O (L := 0) (by omega) (w := 3) (by omega) (by omega))) (by omega) (fun h O => ?_)
      refine gd_cl (ca3 (k_letter O (L := 1) (by omega) (w := 3) (by omega) (by omega))) (by omega) (fun h O => ?_)
      refine gd_t (iZ_add _ _).symm ?_
      refine gd_cl (ab2 O) (by omega) (fun h O => ?_)
      refine gd_t (by rw [f2]) ?_
      refine gd_cl (ab3 O) (by omega) (fun h O => ?_)
      refine gd_t (by rw [f3]) ?_
      refine gd_J (fun J => Gd (J (iZ (if i % 2 = 0 then 1 else 0)) b (iZ 1)) (D + 1) Q) ?_ (fun J54 hJ54 => ?_)
      · by_cases c : i % 2 = 0
        · rw [if_neg (by omega)] at f4
          rw [if_pos c]
          refine gd_cl (ab1 O) (by omega) (fun h O => ?_)
          exact gd_t (by rw [f4.2]) ((hJ28 h O).mono (by omega))
        · rw [if_pos (by omega)] at f4
          rw [if_neg c]
          refine gd_cl (ab0 O) (by omega) (fun h O => ?_)
          exact gd_t (by rw [f4.1]) ((hJ28 h O).mono (by omega))
      · refine gd_s (zremI_iZ (a := (i : Int)) (b := 2) (by omega) (by omega) (by omega) (by omega)) ?_
        refine gd_eq (by omega) (by omega) (by omega) (by omega) (fun z => ?_) (fun z => ?_)
        · rw [if_pos (by omega)] at hJ54
          exact hJ54.mono (by omega)
        · rw [if_neg (by omega)] at hJ54
          exact hJ54.mono (by omega)
  · obtain ⟨s1, h⟩ := s
    obtain ⟨e1, O⟩ := hI
    replace e1 : s1 = iZ 1 := e1
    subst e1
    show Gd (LL_turns_31 T b x18 (iZ (σ.1 0 0)) (iZ (gsum σ.1 (dbt σ.1))) (iZ (gsum σ.1 (cn σ.1))) K0 (k + 1) (iZ 1) (iZ 4) h) C1 Q
    rw [LL_turns_31]
    exact gd_t (by decide) (hK h O)
set_option maxHeartbeats 4000000 in
set_option maxRecDepth 10000 in
theorem t145 {K0 : Int32 → zH → Option (α × zH × Nat)} {x67 : Int64} (O : Ob T hz h b σ) (hc : 4 ≤ σ.2.1 ∧ σ.2.1 ≤ 14) (hK : ∀ h', Ob T hz h' b (ust σ 4) → Gd (K0 (iZ 1) h') C1 Q) : Gd (LL_turns_145 T b x67 K0 FUEL (iZ 1) (iZ 0) h) (C1 + 4) Q := by
  refine gd_loop (L := fun k i (s : Int32 × zH) => LL_turns_145 T b x67 K0 k s.1 i s.2) (I := fun i (s : Int32 × zH) => s.1 = iZ 1 ∧ Ob T hz s.2 b (ust σ i)) (n := 4) (c := 1) (C1 := C1) (by omega) (fun k i s D hi hI kk => ?_) (fun k s hI => ?_) (iZ 1, h) ⟨rfl, O⟩
  · obtain ⟨s1, h⟩ := s
    obtain ⟨e1, O⟩ := hI
    replace e1 : s1 = iZ 1 := e1
    subst e1
    replace O : Ob T hz h b (ust σ i) := O
    replace kk : ∀ h', Ob T hz h' b (ust σ (i + 1)) → Gd (LL_turns_145 T b x67 K0 k (iZ 1) (iZ ((i : Int) + 1)) h') D Q := fun h' O' => kk (iZ 1, h') ⟨rfl, O'⟩
    show Gd (LL_turns_145 T b x67 K0 (k + 1) (iZ 1) (iZ i) h) (D + 1) Q
    have uc := ust_c σ i
    rw [LL_turns_145]
    simp only [q0, q1, q4, q14]
    refine gd_f (fun w => by have := (iZ_le (by omega) (by omega) (by omega) (by omega)).1 w; omega) ?_
    refine gd_J (fun J => ∀ h, Ob T hz h b (ust σ (i + 1)) → Gd (J (iZ 1) (iZ 1) h) D Q) (fun h O => ?_) (fun J74 hJ74 => ?_)
    · rw [show iZ 1 &&& iZ 1 = iZ 1 by decide, iZ_add]
      exact kk h O
    · refine gd_cl (ca14 (k_undo O (by omega))) (by omega) (fun h O => ?_)
      refine gd_lt (by omega) (by omega) (by omega) (by omega) (fun w => by omega) (fun _ => ?_)
      exact (hJ74 h O).mono (by omega)
  · obtain ⟨s1, h⟩ := s
    obtain ⟨e1, O⟩ := hI
    replace e1 : s1 = iZ 1 := e1
    subst e1
    show Gd (LL_turns_145 T b x67 K0 (k + 1) (iZ 1) (iZ 4) h) C1 Q
    rw [LL_turns_145]
    exact gd_t (by decide) (hK h O)
set_option maxHeartbeats 4000000 in
set_option maxRecDepth 10000 in
theorem fl_turns (O : Ob T hz h b σ) : Gd (FL_turns T b h) 8940 (Q1 T hz b (tuF σ)) := by
  have hO := O.ok
  have hc := O.cnt
  have f4 := tst_f hO hc.1 4
  have es : sumV (tst σ 4).1 = sumV σ.1 := (le_sum (tnF_4 hO) f4.1).symm
  unfold FL_turns
  simp only [q0, q1, q2, q3]
  refine gd_gd (fl_sum O) (by omega) (fun w h' hq => ?_)
  obtain ⟨hw, O⟩ := hq
  subst hw
  refine gd_cl (ab0 O) (by omega) (fun h O => ?_)
  refine gd_cl (ab3 O) (by omega) (fun h O => ?_)
  refine gd_cl (ab2 O) (by omega) (fun h O => ?_)
  refine (t31 O (C1 := 5940) (fun h O => ?_)).mono (by omega)
  refine gd_J (fun J => ∀ h, Ob T hz h b (tst σ 4) → Gd (J (iZ 1) (iZ 1) h) 2970 (Q1 T hz b (tuF σ))) (fun h O => ?_) (fun J65 hJ65 => ?_)
  · rw [show iZ 1 &&& iZ 1 = iZ 1 by decide]
    refine (t145 O (C1 := 2965) ⟨f4.2.2.2.2.2 (by omega), O.cnt.2⟩ (fun h O => ?_)).mono (by omega)
    refine gd_J (fun J => ∀ h, Ob T hz h b (tuF σ) → Gd (J (iZ 1) h) 0 (Q1 T hz b (tuF σ))) (fun h O => gd_t (Or.inr rfl) (gd_ret ⟨rfl, O⟩)) (fun J83 hJ83 => ?_)
    refine gd_J (fun _ => True) trivial (fun J85 _ => ?_)
    refine gd_f (by decide) ?_
    refine gd_gd (fl_sum O) (by omega) (fun w h' hq => ?_)
    obtain ⟨hw, O⟩ := hq
    exact gd_t (by rw [hw]; exact lg_eq0.2 (congrArg sumV (tu_1 σ))) ((hJ83 h' O).mono (by omega))
  · refine gd_gd (fl_sum O) (by omega) (fun w h' hq => ?_)
    obtain ⟨hw, O⟩ := hq
    exact gd_t (by rw [hw, es]; exact lg_eq0.2 rfl) ((hJ65 h' O).mono (by omega))
end Tu
