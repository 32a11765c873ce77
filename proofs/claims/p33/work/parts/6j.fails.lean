/-! the calls that throw -/
def Q1 (T : zT) (hz : zH) (b : Nat) (σ : Sg) : Int32 → zH → Prop := fun v h' => v = 1 ∧ Ob T hz h' b σ
theorem r20 : (20 : Int32) = iZ 20 := rfl
theorem r27_ : (27 : Int32) = iZ 27 := rfl
theorem r100_ : (100 : Int32) = iZ 100 := rfl
theorem s0_ : (0 : Int64) = lZ 0 := rfl
theorem s2700_ : (2700 : Int64) = lZ 2700 := by decide
theorem s1e5_ : (100000 : Int64) = lZ 100000 := by decide
theorem sm1_ : (-1 : Int64) = lZ (-1) := by decide
set_option maxHeartbeats 4000000 in
theorem fl_fails {T : zT} {hz h : zH} {b : Nat} {σ : Sg} (O : Ob T hz h b σ) {x : Int} (x1 : 0 ≤ x) (x2 : x < 2147483648) : Gd (FL_fails T b (iZ x) h) 120 (Q1 T hz b σ) := by
  have hO := O.ok
  have hW := hO.1
  have g00 : inG σ.1 0 0 := ⟨by omega, by omega, by omega, by omega⟩
  have hc0 := hO.cn g00
  have nW : ¬ inG σ.1 (σ.1 0 0) 0 := fun z => by have := z.2.1; omega
  have nH : ¬ inG σ.1 0 (σ.1 0 1) := fun z => by have := z.2.2.2; omega
  have w9 : σ.1 0 0 ≤ 9 := hW.2.1
  have v9 : σ.1 0 1 ≤ 9 := hW.2.2.2.1
  have w1 : 1 ≤ σ.1 0 0 := hW.1
  have v1 : 1 ≤ σ.1 0 1 := hW.2.2.1
  unfold FL_fails
  simp only [q0, q1, q2, q3, q4, q5, q6, q7, q8, q9, q10, r11, r12, r13, r15, q16_, r17, r18, r19, r20, r27_, r100_, q256_, qI1, qI2, qm1, s0_, s2700_, s1e5_, sm1_]
  refine gd_J (fun J => ∀ h, Ob T hz h b σ → Gd (J (iZ (σ.1 0 0)) (iZ (σ.1 0 1)) (iZ 1) h) 105 (Q1 T hz b σ)) (fun h O => ?_) (fun J hJ => ?_)
  ·
    refine gd_J (fun J => ∀ h, Ob T hz h b σ → Gd (J (iZ 1) (iZ 1) h) 75 (Q1 T hz b σ)) (fun h O => ?_) (fun J hJ => ?_)
    ·
      refine gd_J (fun J => ∀ h, Ob T hz h b σ → Gd (J (iZ 1) (iZ 1 &&& iZ 1) h) 50 (Q1 T hz b σ)) (fun h O => ?_) (fun J hJ => ?_)
      ·
        refine gd_J (fun J => ∀ h, Ob T hz h b σ → Gd (J (iZ 1) ((iZ 1 &&& iZ 1) &&& iZ 1) h) 20 (Q1 T hz b σ)) (fun h O => ?_) (fun J hJ => ?_)
        ·
          refine gd_J (fun J => ∀ h, Ob T hz h b σ → Gd (J (iZ 1) h) 0 (Q1 T hz b σ)) (fun h O => ?_) (fun J hJ => ?_)
          · exact gd_t (Or.inr rfl) (gd_ret ⟨rfl, O⟩)
          refine gd_J (fun _ => True) trivial (fun J9 _ => ?_)
          refine gd_f (by decide) ?_
          refine gd_cn (k_script_n O (lZ 0)) (by decide) (fun h O => gd_t rfl ?_)
          refine gd_cn (k_script_y O (m := 1) (z := 100000) (Or.inl ⟨rfl, rfl⟩)) (by decide) (fun h O => gd_t rfl ?_)
          refine gd_cn (k_script_y O (m := 2) (z := -1) (Or.inr ⟨rfl, rfl⟩)) (by decide) (fun h O => gd_t rfl ?_)
          refine gd_cn (k_simulate_no O _ (m := 0) (Or.inl rfl)) (by decide) (fun h O => gd_t rfl ?_)
          refine gd_cn (k_simulate_no O _ (m := 100) (Or.inr rfl)) (by decide) (fun h O => gd_t rfl ?_)
          exact (hJ _ O).mono (by decide)
        refine gd_J (fun _ => True) trivial (fun J9 _ => ?_)
        refine gd_cn (k_find_k O (lZ 0)) (by decide) (fun h O => gd_t rfl ?_)
        refine gd_cn (k_find_n O (lZ 0)) (by decide) (fun h O => gd_t rfl ?_)
        refine gd_cn (k_find_s O) (by decide) (fun h O => gd_t rfl ?_)
        refine gd_cl (ca15 (k_count_no O)) (by decide) (fun h O => gd_t rfl ?_)
        refine gd_cl (ca16 (k_best_no O)) (by decide) (fun h O => gd_t rfl ?_)
        refine gd_cl (ca17 (k_clears_no O)) (by decide) (fun h O => gd_t rfl ?_)
        refine gd_cl (ca18 (k_with_no O)) (by decide) (fun h O => gd_t rfl ?_)
        refine gd_cl (ca19 (k_save_no O)) (by decide) (fun h O => gd_t rfl ?_)
        refine gd_cl (ca20 (k_restore_no O)) (by decide) (fun h O => gd_t rfl ?_)
        exact (hJ _ O).mono (by decide)
      refine gd_J (fun _ => True) trivial (fun J9 _ => ?_)
      refine gd_cl (ca9 (k_erase_no O (x := 0) (y := σ.1 0 1) (i := 0) (by omega) (by omega) (by omega) (by omega) (by omega) (by omega) (fun z => nH z.1))) (by decide) (fun h O => gd_t rfl ?_)
      refine gd_cl (ca10 (k_decide_no O (x := 0) (y := 0) (i := 2) (by omega) (by omega) (by omega) (by omega) (by omega) (by omega) (fun z => by have := z.2.2; omega))) (by decide) (fun h O => gd_t rfl ?_)
      refine gd_cl (ca11 (k_pen_k O)) (by decide) (fun h O => gd_t rfl ?_)
      refine gd_cl (ca11 (k_pen_u O)) (by decide) (fun h O => gd_t rfl ?_)
      refine gd_cl (ca11 (k_pen_w O)) (by decide) (fun h O => gd_t rfl ?_)
      refine gd_cl (ca12 (k_margin_no O)) (by decide) (fun h O => gd_t rfl ?_)
      refine gd_cl (ca13 (k_gap_no O)) (by decide) (fun h O => gd_t rfl ?_)
      exact (hJ _ O).mono (by decide)
    refine gd_J (fun _ => True) trivial (fun J9 _ => ?_)
    refine gd_cl (ca7 (k_sign_k O 0 0)) (by decide) (fun h O => gd_t rfl ?_)
    refine gd_cl (ca8 (k_at_no O (L := 0) (by omega) (x := σ.1 0 0) (y := 0) (by omega) (by omega) (by omega) (by omega) nW)) (by decide) (fun h O => gd_t rfl ?_)
    refine gd_cl (ca8 (k_at_k O 0 0)) (by decide) (fun h O => gd_t rfl ?_)
    refine gd_cn (k_write_c O (x := σ.1 0 0) (y := 0) (by omega) (by omega) (by omega) (by omega) nW) (by decide) (fun h O => gd_t rfl ?_)
    refine gd_cn (k_write_a O (s := 27) (k := 0) (w := 0) g00 (by omega) (by omega) (by omega) (by omega) (by omega) (by omega) (by omega)) (by decide) (fun h O => gd_t rfl ?_)
    refine gd_cn (k_write_a O (s := 0) (k := 4) (w := 0) g00 (by omega) (by omega) (by omega) (by omega) (by omega) (by omega) (by omega)) (by decide) (fun h O => gd_t rfl ?_)
    refine gd_cn (k_write_a O (s := 0) (k := 0) (w := 9) g00 (by omega) (by omega) (by omega) (by omega) (by omega) (by omega) (by omega)) (by decide) (fun h O => gd_t rfl ?_)
    exact (hJ _ O).mono (by decide)
  refine gd_J (fun _ => True) trivial (fun J9 _ => ?_)
  refine gd_cl (ab0 O) (by decide) (fun h O => ?_)
  refine gd_cl (ab1 O) (by decide) (fun h O => ?_)
  refine gd_s (zremI_iZ (b := 9) x1 x2 (by omega) (by omega)) ?_
  rw [show iZ 256 + iZ (x % 9) = iZ (256 + x % 9) from iZ_add 256 _]
  refine gd_cl (ca0 (k_append_no O (c := 256 + x % 9) (by omega) (by omega))) (by decide) (fun h O => gd_t rfl ?_)
  refine gd_cl (cq_ab_no O) (by decide) (fun h O => gd_t rfl ?_)
  refine gd_cl (ca3 (k_letter_k O)) (by decide) (fun h O => gd_t rfl ?_)
  refine gd_cl (ca3 (k_letter_w O)) (by decide) (fun h O => gd_t rfl ?_)
  refine gd_cl (ca4 (k_marks_no O (x := σ.1 0 0) (y := 0) (by omega) (by omega) (by omega) (by omega) nW)) (by decide) (fun h O => gd_t rfl ?_)
  refine gd_cl (ca4 (k_marks_no O (x := 0) (y := σ.1 0 1) (by omega) (by omega) (by omega) (by omega) nH)) (by decide) (fun h O => gd_t rfl ?_)
  refine gd_cl (ca5 (k_mark_no O (x := 0) (y := 0) (i := 2) (w := 0) (by omega) (by omega) (by omega) (by omega) (by omega) (by omega) (fun z => by have := z.2.2; omega))) (by decide) (fun h O => gd_t rfl ?_)
  exact (hJ _ O).mono (by decide)
