/-! marks by letters and doubts: the loops over cells -/
section Mp
variable {α : Type} {T : zT} {hz h : zH} {b C c n C1 : Nat} {σ : Sg} {Q : α → zH → Prop}
theorem mt_bit {d : Nat → Nat → Int} {x y k : Int} (hO : OkD d) (g : inG d x y) (hk : k = 0 ∨ k = 1) : (iZ (mt d x y (cn d x y).toNat) >>> (iZ k &&& 31)) &&& iZ 1 = iZ (if sAt d k x y = -9 then 0 else 1) := by
  have hc := hO.cn g
  have ho := own_in hO g
  have hs := sAt_k hO g hk
  have hp := own_cn hO g
  have e : (if sAt d k x y = -9 then (0 : Int) else 1) = if (own d x y ≠ -9 ∧ (own d x y = k ∨ cn d x y = 2)) then 1 else 0 := by
    by_cases z : sAt d k x y = -9
    · rw [if_pos z, if_neg (hs.1 z)]
    · rw [if_neg z, if_pos (Classical.not_not.1 (fun w => z (hs.2 w)))]
  rw [e]
  have h3 : cn d x y = 0 ∨ cn d x y = 1 ∨ cn d x y = 2 := by omega
  unfold mt
  rcases ho with o | o | o <;> rw [o] at hp ⊢ <;> rcases h3 with z | z | z <;> rw [z] at hp ⊢ <;> rcases hk with w | w <;> subst w <;> first | exact absurd (hp (by decide)) (by decide) | decide
set_option maxHeartbeats 4000000 in
theorem m352 {K0 : Int32 → zH → Option (α × zH × Nat)} {x138 x139 x140 x141 x144 : Int32} {x y : Int} (O : Ob T hz h b σ) (g : inG σ.1 x y) (hK : ∀ h', Ob T hz h' b σ → Gd (K0 (iZ 1) h') C1 Q) : Gd (LL_marks_352 T b x138 x139 x140 x141 (iZ y) (iZ x) x144 (iZ (mt σ.1 x y (cn σ.1 x y).toNat)) K0 FUEL (iZ 1) (iZ 0) h) (C1 + 4) Q := by
  have hO := O.ok
  refine gd_for (L := fun k i (s : Int32) h => LL_marks_352 T b x138 x139 x140 x141 (iZ y) (iZ x) x144 (iZ (mt σ.1 x y (cn σ.1 x y).toNat)) K0 k s i h) (F := fun _ => iZ 1) (s0 := iZ 1) (n := 2) (c := 2) (C1 := C1) (by omega) O rfl (by omega) (fun k h O => ?_) (fun k i h D hi O kk => ?_)
  · show Gd (LL_marks_352 T b x138 x139 x140 x141 (iZ y) (iZ x) x144 (iZ (mt σ.1 x y (cn σ.1 x y).toNat)) K0 (k + 1) (iZ 1) (iZ 2) h) C1 Q
    rw [LL_marks_352]
    exact gd_t (by decide) (hK h O)
  · replace kk : ∀ h', Ob T hz h' b σ → Gd (LL_marks_352 T b x138 x139 x140 x141 (iZ y) (iZ x) x144 (iZ (mt σ.1 x y (cn σ.1 x y).toNat)) K0 k (iZ 1) (iZ ((i : Int) + 1)) h') D Q := kk
    show Gd (LL_marks_352 T b x138 x139 x140 x141 (iZ y) (iZ x) x144 (iZ (mt σ.1 x y (cn σ.1 x y).toNat)) K0 (k + 1) (iZ 1) (iZ i) h) (D + 2) Q
    have hk : (i : Int) = 0 ∨ (i : Int) = 1 := by omega
    have eb := mt_bit hO g hk
    have hn := rd_none (L := i) hO g
    have hb := (rd_sg hO i).2 (9 * x + y).toNat (by have := hO.g9 g; omega)
    rw [LL_marks_352]
    simp only [q0, q1, q2, q8, qm9]
    refine gd_f (fun w => by have := (iZ_le (by omega) (by omega) (by omega) (by omega)).1 w; omega) ?_
    refine gd_J (fun J => ∀ h, Ob T hz h b σ → Gd (J (iZ (if sAt σ.1 i x y = -9 then 1 else 0)) (iZ 1) h) D Q) (fun h O => ?_) (fun J152 hJ152 => ?_)
    · refine gd_J (fun J => Gd (J (iZ (if sAt σ.1 i x y = -9 then 1 else 0)) (iZ (if sAt σ.1 i x y = -9 then 1 else 0)) (iZ 1)) D Q) ?_ (fun J156 hJ156 => ?_)
      · refine gd_J (fun J => Gd (J (iZ 1) (iZ 1)) D Q) ?_ (fun J159 hJ159 => gd_t rfl hJ159)
        rw [show (iZ 1 &&& iZ 1) = iZ 1 by decide, iZ_add]
        exact kk h O
      · by_cases z : sAt σ.1 i x y = -9
        · rw [if_pos z] at hJ156 eb ⊢
          exact gd_t eb hJ156
        · rw [if_neg z] at hJ156 eb ⊢
          exact gd_f (fun w => absurd (eb.symm.trans w) (by decide)) hJ156
    · refine gd_cl (kat O hk g) (by omega) (fun h O => ?_)
      rw [show ((i : Int)).toNat = i by omega]
      refine gd_eq (by omega) (by omega) (by omega) (by omega) (fun z => ?_) (fun z => ?_)
      · rw [if_pos (Classical.not_not.1 (fun w => by have := hn.2 w; omega))] at hJ152
        exact (hJ152 h O).mono (by omega)
      · rw [if_neg (fun w => z (hn.1 w))] at hJ152
        exact (hJ152 h O).mono (by omega)
theorem iZ0 {a : Int} (e : a = 0) (v : Int) : iZ v = iZ (v + a) := by rw [e, Int.add_zero]
set_option maxHeartbeats 4000000 in
theorem m28 {K0 : Int32 → Int32 → Int32 → Int32 → Int32 → zH → Option (α × zH × Nat)} {y A B E W : Int} (O : Ob T hz h b σ) (y1 : 0 ≤ y) (y2 : y < σ.1 0 1) (hK : ∀ h', Ob T hz h' b σ → Gd (K0 (iZ (A + zsum (σ.1 0 0).toNat (fun i => cn σ.1 i y))) (iZ (B + zsum (σ.1 0 0).toNat (fun i => oc σ.1 i y))) (iZ (E + zsum (σ.1 0 0).toNat (fun i => dcd σ.1 i y))) (iZ (W + zsum (σ.1 0 0).toNat (fun i => fll σ.1 i y))) (iZ 1) h') C1 Q) : Gd (LL_marks_28 T b (iZ y) K0 FUEL (iZ A) (iZ B) (iZ E) (iZ W) (iZ 1) (iZ 0) h) (C1 + 271) Q := by
  have hO := O.ok
  have hW := hO.1
  have hr : (((σ.1 0 0).toNat : Nat) : Int) = σ.1 0 0 := by omega
  refine gd_for (L := fun k i (s : Int32 × Int32 × Int32 × Int32 × Int32) h => LL_marks_28 T b (iZ y) K0 k s.1 s.2.1 s.2.2.1 s.2.2.2.1 s.2.2.2.2 i h) (F := fun i => (iZ (A + zsum i (fun i => cn σ.1 i y)), iZ (B + zsum i (fun i => oc σ.1 i y)), iZ (E + zsum i (fun i => dcd σ.1 i y)), iZ (W + zsum i (fun i => fll σ.1 i y)), iZ 1)) (s0 := (iZ A, iZ B, iZ E, iZ W, iZ 1)) (n := (σ.1 0 0).toNat) (c := 30) (C1 := C1 + 1) (by omega) O ?_ (by omega) (fun k h O => ?_) (fun k i h D hi O kk => ?_)
  · show _ = (iZ (A + 0), iZ (B + 0), iZ (E + 0), iZ (W + 0), iZ 1)
    rw [Int.add_zero, Int.add_zero, Int.add_zero, Int.add_zero]
  · show Gd (LL_marks_28 T b (iZ y) K0 (k + 1) (iZ (A + zsum (σ.1 0 0).toNat (fun i => cn σ.1 i y))) (iZ (B + zsum (σ.1 0 0).toNat (fun i => oc σ.1 i y))) (iZ (E + zsum (σ.1 0 0).toNat (fun i => dcd σ.1 i y))) (iZ (W + zsum (σ.1 0 0).toNat (fun i => fll σ.1 i y))) (iZ 1) (iZ (σ.1 0 0).toNat) h) (C1 + 1) Q
    rw [LL_marks_28, hr]
    simp only [q0]
    refine gd_cl (ab0 O) (by omega) (fun h O => ?_)
    exact gd_t (Int32.le_refl _) ((hK h O).mono (by omega))
  · replace kk : ∀ h', Ob T hz h' b σ → Gd (LL_marks_28 T b (iZ y) K0 k (iZ (A + (zsum i (fun i => cn σ.1 i y) + cn σ.1 i y))) (iZ (B + (zsum i (fun i => oc σ.1 i y) + oc σ.1 i y))) (iZ (E + (zsum i (fun i => dcd σ.1 i y) + dcd σ.1 i y))) (iZ (W + (zsum i (fun i => fll σ.1 i y) + fll σ.1 i y))) (iZ 1) (iZ ((i : Int) + 1)) h') D Q := kk
    show Gd (LL_marks_28 T b (iZ y) K0 (k + 1) (iZ (A + zsum i (fun i => cn σ.1 i y))) (iZ (B + zsum i (fun i => oc σ.1 i y))) (iZ (E + zsum i (fun i => dcd σ.1 i y))) (iZ (W + zsum i (fun i => fll σ.1 i y))) (iZ 1) (iZ i) h) (D + 30) Q
    rw [← Int.add_assoc, ← Int.add_assoc, ← Int.add_assoc, ← Int.add_assoc] at kk
    have g : inG σ.1 (i : Int) y := ⟨by omega, by omega, y1, y2⟩
    have hc := hO.cn g
    rw [LL_marks_28]
    simp only [q0, q1, q2, q4]
    refine gd_cl (ab0 O) (by omega) (fun h O => ?_)
    refine gd_f (fun w => by have := (iZ_le (by omega) (by omega) (by omega) (by omega)).1 w; omega) ?_
    refine gd_cl (ca4 (k_marks O g)) (by omega) (fun h O => ?_)
    refine (m57 O g (C1 := D + 4) (fun h O => ?_)).mono (by omega)
    refine m352 O g (fun h O => ?_)
    refine gd_J (fun J => Gd (J (iZ (A + zsum i (fun i => cn σ.1 i y)) + iZ (cn σ.1 i y)) (iZ (fll σ.1 i y)) (iZ (W + zsum i (fun i => fll σ.1 i y)))) D Q) ?_ (fun J hJ => ?_)
    · rw [iZ_add, iZ_add, iZ_add]
      exact kk h O
    · refine gd_eq (by omega) (by omega) (by omega) (by omega) (fun z => ?_) (fun z => ?_)
      · unfold fll at hJ
        rw [if_neg (by omega)] at hJ; exact hJ
      · unfold fll at hJ
        rw [if_pos (by omega)] at hJ; exact hJ
set_option maxHeartbeats 4000000 in
theorem fl_marks (O : Ob T hz h b σ) : Gd (FL_marks T b h) 2462 (Q1 T hz b σ) := by
  have hO := O.ok
  have hW := hO.1
  have hr : (((σ.1 0 1).toNat : Nat) : Int) = σ.1 0 1 := by omega
  unfold FL_marks
  simp only [q0, q1, q2, q3, q4, q7, q8, q9]
  refine gd_for (L := fun k i (s : Int32 × Int32 × Int32 × Int32 × Int32) h => LL_marks_15 T b _ k s.1 s.2.1 s.2.2.1 s.2.2.2.1 s.2.2.2.2 i h) (F := fun j => (iZ (zsum j (fun y => zsum (σ.1 0 0).toNat (fun x => cn σ.1 x y))), iZ (zsum j (fun y => zsum (σ.1 0 0).toNat (fun x => oc σ.1 x y))), iZ (zsum j (fun y => zsum (σ.1 0 0).toNat (fun x => dcd σ.1 x y))), iZ (zsum j (fun y => zsum (σ.1 0 0).toNat (fun x => fll σ.1 x y))), iZ 1)) (s0 := (iZ 0, iZ 0, iZ 0, iZ 0, iZ 1)) (n := (σ.1 0 1).toNat) (c := 272) (C1 := 7) (by omega) O rfl (by omega) (fun k h O => ?_) (fun k i h D hi O kk => ?_)
  · have e1 : ∀ f : Int → Int → Int, zsum (σ.1 0 1).toNat (fun y => zsum (σ.1 0 0).toNat (fun x => f x y)) = gsum σ.1 f := fun f => by
      unfold gsum
      exact zsum_swap _ _
    have eo : gsum σ.1 (oc σ.1) = rd σ.1 0 0 1 + rd σ.1 1 0 1 := by
      rw [rd_own hO (by omega), rd_own hO (by omega), ← gsum_add2]
      exact (gsum_congr hO (fun x y g => has_oc hO g)).symm
    have ed : gsum σ.1 (cn σ.1) = rd σ.1 0 0 1 + rd σ.1 1 0 1 + gsum σ.1 (dbt σ.1) := by
      rw [← eo, ← gsum_add2]
      refine gsum_congr hO (fun x y g => ?_)
      unfold oc dbt
      by_cases z : own σ.1 x y = -9
      · rw [if_pos z, if_pos z]; omega
      · rw [if_neg z, if_neg z]; omega
    dsimp only
    rw [LL_marks_15, e1 (cn σ.1), e1 (oc σ.1), e1 (dcd σ.1), e1 (fll σ.1), hr, eo]
    simp only [q1]
    refine gd_cl (ab1 O) (by omega) (fun h O => ?_)
    refine gd_t (Int32.le_refl _) ?_
    refine gd_J (fun J => ∀ h, Ob T hz h b σ → Gd (J (iZ 1) h) 0 (Q1 T hz b σ)) (fun h O => gd_t (Or.inr rfl) (gd_ret ⟨rfl, O⟩)) (fun J hJ => ?_)
    refine gd_J (fun _ => True) trivial (fun J9 _ => ?_)
    refine gd_f (by decide) ?_
    refine gd_cl (ab2 O) (by omega) (fun h O => ?_)
    refine gd_t rfl ?_
    refine gd_cl (ab8 O) (by omega) (fun h O => ?_)
    refine gd_cl (ab9 O) (by omega) (fun h O => ?_)
    refine gd_t (iZ_add _ _).symm ?_
    refine gd_cl (ab3 O) (by omega) (fun h O => ?_)
    refine gd_t (by rw [iZ_add, ← ed]) ?_
    refine gd_cl (ab4 O) (by omega) (fun h O => ?_)
    refine gd_t rfl ?_
    refine gd_cl (ab7 O) (by omega) (fun h O => ?_)
    exact gd_t rfl ((hJ h O).mono (by omega))
  · dsimp only at kk ⊢
    rw [LL_marks_15]
    simp only [q0, q1]
    refine gd_cl (ab1 O) (by omega) (fun h O => ?_)
    refine gd_f (fun w => by have := (iZ_le (by omega) (by omega) (by omega) (by omega)).1 w; omega) ?_
    rw [iZ_add]
    exact (m28 O (y := (i : Int)) (by omega) (by omega) kk).mono (by omega)
end Mp
