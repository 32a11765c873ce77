/-! the law's beginning -/
theorem r48' : (48 : Int32) = iZ 48 := rfl
theorem r49_ : (49 : Int32) = iZ 49 := rfl
section Bg
variable {T : zT} {hz h : zH} {b m C : Nat} {q : Nat → Int} {α : Type} {Q : α → zH → Prop}
theorem gd_ap {G : Int32 → zH → Option (α × zH × Nat)} {c : Int} {a d e : Int32} (N : Nw T hz h b m q) (c1 : 0 ≤ c) (c2 : c ≤ 255) (hm : m < 120) (hc : q m = c) (hC : 2 ≤ C) (kk : ∀ h', Nw T hz h' b (m + 1) q → Gd (G (iZ ((m : Int) + 1)) h') (C - 2) Q) : Gd (zcl (FL_call T b (iZ 0) (iZ c) a d e h) G) C Q := by
  obtain ⟨h', e9, N'⟩ := nw_append N c1 c2 hm hc
  obtain ⟨w, h2, n, e2, hn, hq⟩ := kk h' N'
  refine ⟨w, h2, n + (0 + 2), ?_, by omega, hq⟩
  unfold zcl FL_call
  rw [if_pos (show iZ 0 = (0 : Int32) from rfl)]
  unfold zcn
  rw [e9]
  show (match G (iZ ((m : Int) + 1)) h' with | none => none | some (w, g, n) => some (w, g, n + (0 + 2))) = _
  rw [e2]
theorem gd_er {G : Int32 → zH → Option (α × zH × Nat)} {w v u s y : Int} (gw : 1 ≤ w ∧ w ≤ 9) (gv : 1 ≤ v ∧ v ≤ 9) (gu : 0 ≤ u ∧ u ≤ 3) (gs : 0 ≤ s ∧ s ≤ 8) (gy : 0 ≤ y ∧ y ≤ 1) (hm : m ≤ 8) (N : Nw T hz h b m (tg w v u s y)) (kk : ∀ h', Nw T hz h' b m (tg w v u s y) → Gd (G (iZ (if m = 3 ∨ m = 8 then -9 else m)) h') C Q) : Gd (zb2 (FX6_errorPosition T b h) G) C Q := by
  obtain ⟨h', e, N'⟩ := nw_error gw gv gu gs gy hm N
  exact gd_b2 e (kk h' N')
def bg0 (x : Int) : Sg := bgn (1 + x % 9) (1 + x / 9 % 9) (x / 128 % 4) (x / 512 % 9) (x / 8192 % 2)
def tg0 (x : Int) : Nat → Int := tg (1 + x % 9) (1 + x / 9 % 9) (x / 128 % 4) (x / 512 % 9) (x / 8192 % 2)
set_option maxHeartbeats 4000000 in
theorem fl_begin {x : Int} (x1 : 0 ≤ x) (x2 : x < 2147483648) (N : Nw T hz h b 0 (tg0 x)) : Gd (FL_begin T b (iZ x) h) 25 (Q1 T hz b (bg0 x)) := by
  have gw : 1 ≤ 1 + x % 9 ∧ 1 + x % 9 ≤ 9 := by omega
  have gv : 1 ≤ 1 + x / 9 % 9 ∧ 1 + x / 9 % 9 ≤ 9 := by omega
  have gu : 0 ≤ x / 128 % 4 ∧ x / 128 % 4 ≤ 3 := by omega
  have gs : 0 ≤ x / 512 % 9 ∧ x / 512 % 9 ≤ 8 := by omega
  have gy : 0 ≤ x / 8192 % 2 ∧ x / 8192 % 2 ≤ 1 := by omega
  unfold FL_begin
  simp only [q0, q1, q2, q3, q4, q5, q6, q7, q8, q9, qm9, r83, r49_, r48', r112, r128, r512, q8192_]
  refine gd_J (fun J => ∀ h, Nw T hz h b 3 (tg0 x) → Gd (J (iZ 1) h) 15 (Q1 T hz b (bg0 x))) (fun h N => ?_) (fun J3 hJ3 => ?_)
  · refine gd_J (fun J => ∀ h, Nw T hz h b 8 (tg0 x) → Gd (J (iZ 1) h) 2 (Q1 T hz b (bg0 x))) (fun h N => ?_) (fun J6 hJ6 => ?_)
    · refine gd_J (fun J => ∀ h, Ob T hz h b (bg0 x) → Gd (J (iZ 1) h) 0 (Q1 T hz b (bg0 x))) (fun h O => gd_t (Or.inr rfl) (gd_ret ⟨rfl, O⟩)) (fun J hJ => ?_)
      refine gd_J (fun _ => True) trivial (fun J9 _ => ?_)
      refine gd_f (by decide) ?_
      refine gd_cl (ca1 (nw_load gw gv gu gs gy N)) (by decide) (fun h O => gd_t rfl ?_)
      exact (hJ _ O).mono (by decide)
    refine gd_J (fun _ => True) trivial (fun J9 _ => ?_)
    refine gd_f (by decide) ?_
    refine gd_ap (c := 112) N (by omega) (by omega) (by omega) rfl (by decide) (fun h N => gd_t rfl ?_)
    refine gd_ap (c := 49) N (by omega) (by omega) (by omega) rfl (by decide) (fun h N => gd_t rfl ?_)
    refine gd_s (zdivI_iZ (b := 128) x1 x2 (by omega) (by omega)) ?_
    refine gd_s (zremI_iZ (b := 4) (by omega) (by omega) (by omega) (by omega)) ?_
    rw [iZ_add]
    refine gd_ap (c := 48 + x / 128 % 4) N (by omega) (by omega) (by omega) rfl (by decide) (fun h N => gd_t rfl ?_)
    refine gd_s (zdivI_iZ (b := 512) x1 x2 (by omega) (by omega)) ?_
    refine gd_s (zremI_iZ (b := 9) (by omega) (by omega) (by omega) (by omega)) ?_
    rw [iZ_add]
    refine gd_ap (c := 48 + x / 512 % 9) N (by omega) (by omega) (by omega) rfl (by decide) (fun h N => gd_t rfl ?_)
    refine gd_er gw gv gu gs gy (by omega) N (fun h N => gd_t rfl ?_)
    refine gd_s (zdivI_iZ (b := 8192) x1 x2 (by omega) (by omega)) ?_
    refine gd_s (zremI_iZ (b := 2) (by omega) (by omega) (by omega) (by omega)) ?_
    rw [iZ_add]
    refine gd_ap (c := 48 + x / 8192 % 2) N (by omega) (by omega) (by omega) rfl (by decide) (fun h N => gd_t rfl ?_)
    refine gd_er gw gv gu gs gy (by omega) N (fun h N => gd_t rfl ?_)
    exact (hJ6 _ N).mono (by decide)
  refine gd_J (fun _ => True) trivial (fun J9 _ => ?_)
  refine gd_ap (c := 83) N (by omega) (by omega) (by omega) rfl (by decide) (fun h N => gd_t rfl ?_)
  refine gd_er gw gv gu gs gy (by omega) N (fun h N => gd_t rfl ?_)
  refine gd_s (zremI_iZ (b := 9) x1 x2 (by omega) (by omega)) ?_
  rw [iZ_add]
  refine gd_ap (c := 49 + x % 9) N (by omega) (by omega) (by omega) (by show 48 + (1 + x % 9) = 49 + x % 9; omega) (by decide) (fun h N => gd_t rfl ?_)
  refine gd_s (zdivI_iZ (b := 9) x1 x2 (by omega) (by omega)) ?_
  refine gd_s (zremI_iZ (b := 9) (by omega) (by omega) (by omega) (by omega)) ?_
  rw [iZ_add]
  refine gd_ap (c := 49 + x / 9 % 9) N (by omega) (by omega) (by omega) (by show 48 + (1 + x / 9 % 9) = 49 + x / 9 % 9; omega) (by decide) (fun h N => gd_t rfl ?_)
  refine gd_er gw gv gu gs gy (by omega) N (fun h N => gd_t rfl ?_)
  exact (hJ3 _ N).mono (by decide)
end Bg
