/-! an action of the law, as a function of the state -/
def wrF (σ : Sg) (c r y : Int) : Int × Sg := if cn σ.1 c r < 2 then (cn σ.1 c r, acted σ (dadd σ.1 c r (if y / 256 % 3 = 0 then 26 else y / 1024 % 5) (y / 8192 % 4) (y / 65536 % 9))) else (-9999003, σ)
def erF (σ : Sg) (c r y : Int) : Int × Sg := if y / 256 % 2 < cn σ.1 c r then (σ.1 5 (pl c r (y / 256 % 2)), acted σ (drem σ.1 c r (y / 256 % 2))) else (-9999001, σ)
def deF (σ : Sg) (c r i k : Int) : Int × Sg := if i < cn σ.1 c r then (if (0 ≤ k ∧ k < 2) ∧ dec σ.1 c r (1 - i) = k then (-9999003, σ) else (gsum (ddec σ.1 c r i (kv k)) (dbt (ddec σ.1 c r i (kv k))), acted σ (ddec σ.1 c r i (kv k)))) else (-9999001, σ)
def peF (σ : Sg) (L : Nat) (u s w : Int) : Int × Sg := (gsum (dlet σ.1 L u s w) (dbt (dlet σ.1 L u s w)), acted σ (dlet σ.1 L u s w))
def unF (σ : Sg) : Int × Sg := if 0 < σ.2.1 then (σ.2.1 - 1, undone σ) else (-9999003, σ)
def saF (σ : Sg) (y : Int) : Int × Sg := if y % 2 = 0 then (gsum σ.1 (cn σ.1), saved σ 1) else if σ.2.2.2.1 1 = 1 then (gsum (σ.2.2.2.2 1) (cn (σ.2.2.2.2 1)), restored σ 1) else (-9999003, σ)
def actF (σ : Sg) (x y : Int) : Int × Sg :=
  if x % 16 ≤ 4 then wrF σ (y % σ.1 0 0) (y / 16 % σ.1 0 1) y
  else if x % 16 = 5 then erF σ (y % σ.1 0 0) (y / 16 % σ.1 0 1) y
  else if x % 16 ≤ 8 then deF σ (y % σ.1 0 0) (y / 16 % σ.1 0 1) (y / 256 % 2) (y / 512 % 3)
  else if x % 16 = 9 then peF σ (y % 2).toNat (y / 2 % 4) (y / 8 % 9) (y / 128 % 2)
  else if x % 16 = 10 then (σ.1 0 2, acted σ (dput σ.1 0 2 (y % 10)))
  else if x % 16 = 11 then (σ.1 0 3, acted σ (dput σ.1 0 3 (1 + y % 3)))
  else if x % 16 = 12 then (rd (tnF σ.1) 0 0 0 + rd (tnF σ.1) 1 0 0, acted σ (tnF σ.1))
  else if x % 16 ≤ 14 then unF σ else saF σ y
def Q2 (T : zT) (hz : zH) (b : Nat) (p : Int × Sg) : Int32 → zH → Prop := fun v h' => v = iZ p.1 ∧ Ob T hz h' b p.2
section Ac
variable {T : zT} {hz h : zH} {b C c : Nat} {v : Int} {σ : Sg} {X : Option (Int32 × zH × Nat)} {Y : Option (Int32 × zH)}
theorem gd_q2 {p : Int × Sg} (hx : Cq T hz b X p.1 c p.2) (hc : c ≤ C) : Gd (zcl X fun x h => some (x, h, 0)) C (Q2 T hz b p) := gd_cl hx hc (fun _ O => gd_ret ⟨rfl, O⟩)
theorem cq_w (O : Ob T hz h b σ) {c r y : Int} (g : inG σ.1 c r) (y1 : 0 ≤ y) : Rq T hz b (FL_tryWrite T b (iZ c) (iZ r) (iZ (if y / 256 % 3 = 0 then 26 else y / 1024 % 5)) (iZ (y / 8192 % 4)) (iZ (y / 65536 % 9)) h) (wrF σ c r y).1 (wrF σ c r y).2 := by
  have gs : 0 ≤ (if y / 256 % 3 = 0 then (26 : Int) else y / 1024 % 5) ∧ (if y / 256 % 3 = 0 then (26 : Int) else y / 1024 % 5) ≤ 26 := by split <;> omega
  unfold wrF
  by_cases z : cn σ.1 c r < 2
  · rw [if_pos z]
    exact k_write O g gs (by omega) (by omega) z
  · rw [if_neg z]
    exact k_write_full O g gs (by omega) (by omega) z
theorem cq_e (O : Ob T hz h b σ) {c r y : Int} (g : inG σ.1 c r) (y1 : 0 ≤ y) : Rq T hz b (FL_tryErase T b (iZ c) (iZ r) (iZ (y / 256 % 2)) h) (erF σ c r y).1 (erF σ c r y).2 := by
  have g9 := O.ok.g9 g
  unfold erF
  by_cases z : y / 256 % 2 < cn σ.1 c r
  · rw [if_pos z]
    exact k_erase O g (by omega) z
  · rw [if_neg z]
    exact k_erase_no O (by omega) (by omega) (by omega) (by omega) (by omega) (by omega) (fun w => z w.2.2)
theorem cq_d (O : Ob T hz h b σ) {c r i k : Int} (g : inG σ.1 c r) (i1 : 0 ≤ i) (i2 : i < 2) (gk : 0 ≤ k ∧ k ≤ 2) : Rq T hz b (FL_tryDecide T b (iZ c) (iZ r) (iZ i) (iZ k) h) (deF σ c r i k).1 (deF σ c r i k).2 := by
  have g9 := O.ok.g9 g
  unfold deF
  by_cases z : i < cn σ.1 c r
  · rw [if_pos z]
    by_cases w : (0 ≤ k ∧ k < 2) ∧ dec σ.1 c r (1 - i) = k
    · rw [if_pos w]
      exact k_decide_st O g i1 z gk w
    · rw [if_neg w]
      exact k_decide O g i1 z gk w
  · rw [if_neg z]
    exact k_decide_no O (by omega) (by omega) (by omega) (by omega) (by omega) (by omega) (fun w => z w.2.2)
theorem cq_u (O : Ob T hz h b σ) : Rq T hz b (FL_tryUndo T b h) (unF σ).1 (unF σ).2 := by
  unfold unF
  by_cases z : 0 < σ.2.1
  · rw [if_pos z]
    exact k_undo O z
  · rw [if_neg z]
    obtain ⟨n, tx, hn, d, nxt, dd, fl, ds, S, hO, hc, -⟩ := id O
    have hcz : σ.2.1 = 0 := by omega
    exact k_undo_no O hcz
theorem r128 : (128 : Int32) = iZ 128 := rfl
theorem r512 : (512 : Int32) = iZ 512 := rfl
theorem r1024 : (1024 : Int32) = iZ 1024 := rfl
set_option maxHeartbeats 4000000 in
theorem fl_act (O : Ob T hz h b σ) {x y : Int} (x1 : 0 ≤ x) (x2 : x < 2147483648) (y1 : 0 ≤ y) (y2 : y < 2147483648) : Gd (FL_act T b (iZ x) (iZ y) h) 15 (Q2 T hz b (actF σ x y)) := by
  have hO := O.ok
  have hW := hO.1
  have w9 : σ.1 0 0 ≤ 9 := hW.2.1
  have v9 : σ.1 0 1 ≤ 9 := hW.2.2.2.1
  have w1 : 1 ≤ σ.1 0 0 := hW.1
  have v1 : 1 ≤ σ.1 0 1 := hW.2.2.1
  have a1 := Int.emod_nonneg y (show σ.1 0 0 ≠ 0 by omega)
  have a2 := Int.emod_lt_of_pos y (show 0 < σ.1 0 0 by omega)
  have a3 := Int.emod_nonneg (y / 16) (show σ.1 0 1 ≠ 0 by omega)
  have a4 := Int.emod_lt_of_pos (y / 16) (show 0 < σ.1 0 1 by omega)
  have g : inG σ.1 (y % σ.1 0 0) (y / 16 % σ.1 0 1) := ⟨a1, a2, a3, a4⟩
  unfold FL_act
  simp only [q0, q1, q2, q3, q4, q5, q6, q7, q8, q9, q10, r11, r12, r13, q14, q16_, r19, r20, q26, q256_, r128, r512, r1024, q8192_, q65536_]
  refine gd_J (fun J => ∀ h, Ob T hz h b σ → Gd (J h) 1 (Q2 T hz b (unF σ))) (fun h O => gd_q2 (ca14 (cq_u O)) (by decide)) (fun J2 hJ2 => ?_)
  refine gd_J (fun J => ∀ h, Ob T hz h b σ → Gd (J (iZ (y % σ.1 0 0)) (iZ (y / 16 % σ.1 0 1)) h) 3 (Q2 T hz b (deF σ (y % σ.1 0 0) (y / 16 % σ.1 0 1) (y / 256 % 2) (y / 512 % 3)))) (fun h O => ?_) (fun J10 hJ10 => ?_)
  · refine gd_s (zdivI_iZ (b := 256) y1 y2 (by omega) (by omega)) ?_
    refine gd_s (zremI_iZ (b := 2) (by omega) (by omega) (by omega) (by omega)) ?_
    refine gd_s (zdivI_iZ (b := 512) y1 y2 (by omega) (by omega)) ?_
    refine gd_s (zremI_iZ (b := 3) (by omega) (by omega) (by omega) (by omega)) ?_
    exact gd_q2 (ca10 (cq_d O g (by omega) (by omega) (by omega))) (by decide)
  refine gd_J (fun J => ∀ h, Ob T hz h b σ → Gd (J (iZ (y % σ.1 0 0)) (iZ (y / 16 % σ.1 0 1)) h) 5 (Q2 T hz b (wrF σ (y % σ.1 0 0) (y / 16 % σ.1 0 1) y))) (fun h O => ?_) (fun J22 hJ22 => ?_)
  · refine gd_J (fun J => Gd (J (iZ (if y / 256 % 3 = 0 then 26 else y / 1024 % 5)) (iZ (y / 16 % σ.1 0 1)) (iZ (y % σ.1 0 0)) b) 5 (Q2 T hz b (wrF σ (y % σ.1 0 0) (y / 16 % σ.1 0 1) y))) ?_ (fun J hJ => ?_)
    · refine gd_s (zdivI_iZ (b := 8192) y1 y2 (by omega) (by omega)) ?_
      refine gd_s (zremI_iZ (b := 4) (by omega) (by omega) (by omega) (by omega)) ?_
      refine gd_s (zdivI_iZ (b := 65536) y1 y2 (by omega) (by omega)) ?_
      refine gd_s (zremI_iZ (b := 9) (by omega) (by omega) (by omega) (by omega)) ?_
      exact gd_cn (cq_w O g y1) (by decide) (fun _ O => gd_ret ⟨rfl, O⟩)
    · refine gd_s (zdivI_iZ (b := 256) y1 y2 (by omega) (by omega)) ?_
      refine gd_s (zremI_iZ (b := 3) (by omega) (by omega) (by omega) (by omega)) ?_
      by_cases z : y / 256 % 3 = 0
      · rw [if_pos z] at hJ
        exact gd_t (by rw [z]) hJ
      · rw [if_neg z] at hJ
        refine gd_f (by rw [iZ_eq (by omega) (by omega) (by omega) (by omega)]; exact z) ?_
        refine gd_s (zdivI_iZ (b := 1024) y1 y2 (by omega) (by omega)) ?_
        exact gd_s (zremI_iZ (b := 5) (by omega) (by omega) (by omega) (by omega)) hJ
  refine gd_cl (ab0 O) (by decide) (fun h O => ?_)
  refine gd_s (zremI_iZ y1 y2 (by omega) (by omega)) ?_
  refine gd_s (zdivI_iZ (b := 16) y1 y2 (by omega) (by omega)) ?_
  refine gd_cl (ab1 O) (by decide) (fun h O => ?_)
  refine gd_s (zremI_iZ (by omega) (by omega) (by omega) (by omega)) ?_
  refine gd_s (zremI_iZ (b := 16) x1 x2 (by omega) (by omega)) ?_
  have ym : (y % 2).toNat < 2 := by omega
  have ey : iZ (y % 2) = iZ (((y % 2).toNat : Nat) : Int) := by rw [show (((y % 2).toNat : Nat) : Int) = y % 2 by omega]
  unfold actF
  rcases (show x % 16 = 0 ∨ x % 16 = 1 ∨ x % 16 = 2 ∨ x % 16 = 3 ∨ x % 16 = 4 ∨ x % 16 = 5 ∨ x % 16 = 6 ∨ x % 16 = 7 ∨ x % 16 = 8 ∨ x % 16 = 9 ∨ x % 16 = 10 ∨ x % 16 = 11 ∨ x % 16 = 12 ∨ x % 16 = 13 ∨ x % 16 = 14 ∨ x % 16 = 15 by omega) with e | e | e | e | e | e | e | e | e | e | e | e | e | e | e | e
  · rw [e, if_pos (by decide)]
    exact gd_t rfl ((hJ22 _ O).mono (by decide))
  · rw [e, if_pos (by decide)]
    exact gd_f (by decide) (gd_t rfl ((hJ22 _ O).mono (by decide)))
  · rw [e, if_pos (by decide)]
    exact gd_f (by decide) (gd_f (by decide) (gd_t rfl ((hJ22 _ O).mono (by decide))))
  · rw [e, if_pos (by decide)]
    exact gd_f (by decide) (gd_f (by decide) (gd_f (by decide) (gd_t rfl ((hJ22 _ O).mono (by decide)))))
  · rw [e, if_pos (by decide)]
    exact gd_f (by decide) (gd_f (by decide) (gd_f (by decide) (gd_f (by decide) (gd_t rfl ((hJ22 _ O).mono (by decide))))))
  · rw [e, if_neg (by decide), if_pos (by decide)]
    refine gd_f (by decide) (gd_f (by decide) (gd_f (by decide) (gd_f (by decide) (gd_f (by decide) (gd_t rfl ?_)))))
    refine gd_s (zdivI_iZ (b := 256) y1 y2 (by omega) (by omega)) ?_
    refine gd_s (zremI_iZ (b := 2) (by omega) (by omega) (by omega) (by omega)) ?_
    exact gd_q2 (ca9 (cq_e O g y1)) (by decide)
  · rw [e, if_neg (by decide), if_neg (by decide), if_pos (by decide)]
    exact gd_f (by decide) (gd_f (by decide) (gd_f (by decide) (gd_f (by decide) (gd_f (by decide) (gd_f (by decide) (gd_t rfl ((hJ10 _ O).mono (by decide))))))))
  · rw [e, if_neg (by decide), if_neg (by decide), if_pos (by decide)]
    exact gd_f (by decide) (gd_f (by decide) (gd_f (by decide) (gd_f (by decide) (gd_f (by decide) (gd_f (by decide) (gd_f (by decide) (gd_t rfl ((hJ10 _ O).mono (by decide)))))))))
  · rw [e, if_neg (by decide), if_neg (by decide), if_pos (by decide)]
    exact gd_f (by decide) (gd_f (by decide) (gd_f (by decide) (gd_f (by decide) (gd_f (by decide) (gd_f (by decide) (gd_f (by decide) (gd_f (by decide) (gd_t rfl ((hJ10 _ O).mono (by decide))))))))))
  · rw [e, if_neg (by decide), if_neg (by decide), if_neg (by decide), if_pos (by decide)]
    refine gd_f (by decide) (gd_f (by decide) (gd_f (by decide) (gd_f (by decide) (gd_f (by decide) (gd_f (by decide) (gd_f (by decide) (gd_f (by decide) (gd_f (by decide) (gd_t rfl ?_)))))))))
    refine gd_s (zremI_iZ (b := 2) y1 y2 (by omega) (by omega)) ?_
    refine gd_s (zdivI_iZ (b := 2) y1 y2 (by omega) (by omega)) ?_
    refine gd_s (zremI_iZ (b := 4) (by omega) (by omega) (by omega) (by omega)) ?_
    refine gd_s (zdivI_iZ (b := 8) y1 y2 (by omega) (by omega)) ?_
    refine gd_s (zremI_iZ (b := 9) (by omega) (by omega) (by omega) (by omega)) ?_
    refine gd_s (zdivI_iZ (b := 128) y1 y2 (by omega) (by omega)) ?_
    refine gd_s (zremI_iZ (b := 2) (by omega) (by omega) (by omega) (by omega)) ?_
    rw [ey]
    exact gd_q2 (p := peF σ (y % 2).toNat (y / 2 % 4) (y / 8 % 9) (y / 128 % 2)) (ca11 (k_pen O ym (by omega) (by omega) (by omega))) (by decide)
  · rw [e, if_neg (by decide), if_neg (by decide), if_neg (by decide), if_neg (by decide), if_pos (by decide)]
    refine gd_f (by decide) (gd_f (by decide) (gd_f (by decide) (gd_f (by decide) (gd_f (by decide) (gd_f (by decide) (gd_f (by decide) (gd_f (by decide) (gd_f (by decide) (gd_f (by decide) (gd_t rfl ?_))))))))))
    refine gd_s (zremI_iZ (b := 10) y1 y2 (by omega) (by omega)) ?_
    exact gd_q2 (p := (σ.1 0 2, acted σ (dput σ.1 0 2 (y % 10)))) (ca12 (k_margin O (by omega))) (by decide)
  · rw [e, if_neg (by decide), if_neg (by decide), if_neg (by decide), if_neg (by decide), if_neg (by decide), if_pos (by decide)]
    refine gd_f (by decide) (gd_f (by decide) (gd_f (by decide) (gd_f (by decide) (gd_f (by decide) (gd_f (by decide) (gd_f (by decide) (gd_f (by decide) (gd_f (by decide) (gd_f (by decide) (gd_f (by decide) (gd_t rfl ?_)))))))))))
    refine gd_s (zremI_iZ (b := 3) y1 y2 (by omega) (by omega)) ?_
    rw [show iZ 1 + iZ (y % 3) = iZ (1 + y % 3) from iZ_add 1 _]
    exact gd_q2 (p := (σ.1 0 3, acted σ (dput σ.1 0 3 (1 + y % 3)))) (ca13 (k_gap O (by omega))) (by decide)
  · rw [e, if_neg (by decide), if_neg (by decide), if_neg (by decide), if_neg (by decide), if_neg (by decide), if_neg (by decide), if_pos (by decide)]
    refine gd_f (by decide) (gd_f (by decide) (gd_f (by decide) (gd_f (by decide) (gd_f (by decide) (gd_f (by decide) (gd_f (by decide) (gd_f (by decide) (gd_f (by decide) (gd_f (by decide) (gd_f (by decide) (gd_f (by decide) (gd_t rfl ?_))))))))))))
    obtain ⟨h2, e2, O2⟩ := k_turn O
    exact gd_b2 e2 (gd_ret ⟨rfl, O2⟩)
  · rw [e, if_neg (by decide), if_neg (by decide), if_neg (by decide), if_neg (by decide), if_neg (by decide), if_neg (by decide), if_neg (by decide), if_pos (by decide)]
    exact gd_f (by decide) (gd_f (by decide) (gd_f (by decide) (gd_f (by decide) (gd_f (by decide) (gd_f (by decide) (gd_f (by decide) (gd_f (by decide) (gd_f (by decide) (gd_f (by decide) (gd_f (by decide) (gd_f (by decide) (gd_f (by decide) (gd_t rfl ((hJ2 _ O).mono (by decide)))))))))))))))
  · rw [e, if_neg (by decide), if_neg (by decide), if_neg (by decide), if_neg (by decide), if_neg (by decide), if_neg (by decide), if_neg (by decide), if_pos (by decide)]
    exact gd_f (by decide) (gd_f (by decide) (gd_f (by decide) (gd_f (by decide) (gd_f (by decide) (gd_f (by decide) (gd_f (by decide) (gd_f (by decide) (gd_f (by decide) (gd_f (by decide) (gd_f (by decide) (gd_f (by decide) (gd_f (by decide) (gd_f (by decide) (gd_t rfl ((hJ2 _ O).mono (by decide))))))))))))))))
  · rw [e, if_neg (by decide), if_neg (by decide), if_neg (by decide), if_neg (by decide), if_neg (by decide), if_neg (by decide), if_neg (by decide), if_neg (by decide)]
    refine gd_f (by decide) (gd_f (by decide) (gd_f (by decide) (gd_f (by decide) (gd_f (by decide) (gd_f (by decide) (gd_f (by decide) (gd_f (by decide) (gd_f (by decide) (gd_f (by decide) (gd_f (by decide) (gd_f (by decide) (gd_f (by decide) (gd_f (by decide) (gd_f (by decide) (?_)))))))))))))))
    refine gd_J (fun J => ∀ v h, Q2 T hz b (saF σ y) v h → Gd (J v h) 0 (Q2 T hz b (saF σ y))) (fun v h q => gd_ret q) (fun J hJ => ?_)
    refine gd_s (zremI_iZ (b := 2) y1 y2 (by omega) (by omega)) ?_
    unfold saF at hJ ⊢
    by_cases z : y % 2 = 0
    · rw [if_pos z] at hJ ⊢
      refine gd_t (by rw [z]) ?_
      exact gd_cl (ca19 (k_save O (i := 1) (by omega))) (by decide) (fun h O => (hJ _ _ ⟨rfl, O⟩).mono (by omega))
    · rw [if_neg z] at hJ ⊢
      refine gd_f (by rw [iZ_eq (by omega) (by omega) (by omega) (by omega)]; exact z) ?_
      by_cases f : σ.2.2.2.1 1 = 1
      · rw [if_pos f] at hJ ⊢
        exact gd_cl (ca20 (k_restore O (i := 1) (by omega) f)) (by decide) (fun h O => (hJ _ _ ⟨rfl, O⟩).mono (by omega))
      · rw [if_neg f] at hJ ⊢
        exact gd_cl (ca20 (k_restore_st O (i := 1) (by omega) f)) (by decide) (fun h O => (hJ _ _ ⟨rfl, O⟩).mono (by omega))
end Ac
