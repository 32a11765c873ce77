/-! the sum that the law takes of an object's answers -/
def fo (g : Nat → Int64 → Int64) : Nat → Int64 → Int64
  | 0, s => s
  | n + 1, s => g n (fo g n s)
theorem fo_congr {g g' : Nat → Int64 → Int64} {s : Int64} : ∀ n : Nat, (∀ i s, i < n → g' i s = g i s) → fo g' n s = fo g n s
  | 0, _ => rfl
  | n + 1, h => by
    show g' n (fo g' n s) = g n (fo g n s)
    rw [fo_congr n (fun i s hi => h i s (by omega)), h n _ (by omega)]
def m8 (d : Nat → Nat → Int) (x y i : Int) (s : Int64) : Int64 := fo (fun k s => (((131 : Int64) * s + (iZ (mval d x y i k)).toInt64) + (iZ 7 * iZ x).toInt64) + (iZ 3 * iZ y).toInt64) 8 s
def mC (d : Nat → Nat → Int) (x y : Int) (s : Int64) : Int64 := fo (fun i s => m8 d x y i s) (cn d x y).toNat s
def mR (d : Nat → Nat → Int) (y : Int) (s : Int64) : Int64 := fo (fun x s => mC d x y s) (d 0 0).toNat s
def mS (d : Nat → Nat → Int) (s : Int64) : Int64 := fo (fun y s => mR d y s) (d 0 1).toNat s
def sA (d : Nat → Nat → Int) : Int64 := fo (fun k s => (131 : Int64) * s + (iZ (vab d k)).toInt64) 10 0
def sB (d : Nat → Nat → Int) : Int64 := fo (fun k s => (131 : Int64) * s + (iZ (vle d (k / 5) ((k % 5 : Nat) : Int))).toInt64) 10 (sA d)
def sumV (d : Nat → Nat → Int) : Int64 := mS d (sB d)
section Su
variable {α : Type} {T : zT} {hz h : zH} {b C c n C1 : Nat} {σ : Sg} {Q : α → zH → Prop} {d e : Nat → Nat → Int}
theorem le_mval (hL : LE d e) {x y i z : Int} (g : inG d x y) (i1 : 0 ≤ i) (i2 : i < cn d x y) (hc : cn d x y ≤ 2) (z1 : 0 ≤ z) (z2 : z ≤ 7) : mval e x y i z = mval d x y i z := by
  obtain ⟨m5, m6, m7, m8⟩ := hL.mm g i1 i2
  unfold mval
  rw [m5, m6, m7, m8, le_ownof hL g, le_rul hL g i1 (by omega), le_dst hL g i1 i2 (k := (z - 6).toNat)]
  by_cases e6 : z ≤ 5
  · omega
  · omega
theorem le_vab (hL : LE d e) (hO : OkD d) (w : Int) (w1 : 0 ≤ w) (w2 : w ≤ 9) : vab e w = vab d w := by
  unfold vab
  rw [hL.1 0 (by omega), hL.1 1 (by omega), hL.1 2 (by omega), hL.1 3 (by omega), le_cnt hL hO, le_dbt hL hO, le_dcd hL hO, le_fll hL hO]
  by_cases g : w = 8 ∨ w = 9
  · rw [le_rd hL (L := (w - 8).toNat) (by omega)]
  · have : w = 0 ∨ w = 1 ∨ w = 2 ∨ w = 3 ∨ w = 4 ∨ w = 5 ∨ w = 6 ∨ w = 7 := by omega
    rcases this with q | q | q | q | q | q | q | q <;> subst q <;> rfl
theorem le_vle (hL : LE d e) {L : Nat} (h2 : L < 2) (w : Int) : vle e L w = vle d L w := by
  obtain ⟨a1, a2, a3⟩ := hL.2.1 L h2
  unfold vle
  rw [a1, a2, a3, le_rd hL h2]
theorem le_sum (hL : LE d e) (hO : OkD d) : sumV e = sumV d := by
  unfold sumV
  have hA : sA e = sA d := by
    unfold sA
    exact fo_congr 10 (fun i s hi => by rw [le_vab hL hO i (by omega) (by omega)])
  have hB : sB e = sB d := by
    unfold sB
    rw [hA]
    exact fo_congr 10 (fun i s hi => by rw [le_vle hL (by omega)])
  rw [hB]
  unfold mS
  rw [hL.1 1 (by omega)]
  refine fo_congr _ (fun y s hy => ?_)
  show mR e y s = mR d y s
  unfold mR
  rw [hL.1 0 (by omega)]
  refine fo_congr _ (fun x s hx => ?_)
  have g : inG d x y := ⟨by omega, by omega, by omega, by omega⟩
  show mC e x y s = mC d x y s
  unfold mC
  rw [hL.cc g]
  refine fo_congr _ (fun i s hi => ?_)
  show m8 e x y i s = m8 d x y i s
  unfold m8
  refine fo_congr _ (fun k s hk => ?_)
  rw [le_mval hL g (i := i) (z := k) (by omega) (by omega) (hO.cn g).2 (by omega) (by omega)]
theorem gd_fold {L : Nat → Int64 → Int32 → zH → Option (α × zH × Nat)} {g : Nat → Int64 → Int64} {s0 : Int64} (hn : n < 9999) (O : Ob T hz h b σ) (hC : C1 + n * c ≤ C) (he : ∀ (k : Nat) (h : zH), Ob T hz h b σ → Gd (L (k + 1) (fo g n s0) (iZ n) h) C1 Q) (hs : ∀ (k i : Nat) (s : Int64) (h : zH) (D : Nat), i < n → Ob T hz h b σ → (∀ h', Ob T hz h' b σ → Gd (L k (g i s) (iZ ((i : Int) + 1)) h') D Q) → Gd (L (k + 1) s (iZ i) h) (D + c) Q) : Gd (L FUEL s0 (iZ 0) h) C Q := by
  refine Gd.mono ?_ hC
  exact gd_loop (L := fun k i (s : Int64 × zH) => L k s.1 i s.2) (I := fun i (s : Int64 × zH) => s.1 = fo g i s0 ∧ Ob T hz s.2 b σ) (c := c) (C1 := C1) hn (fun k i s D hi hI kk => hs k i s.1 s.2 D hi hI.2 (fun h' O' => kk (g i s.1, h') ⟨by rw [hI.1]; rfl, O'⟩)) (fun k s hI => by
    show Gd (L (k + 1) s.1 (iZ n) s.2) C1 Q
    rw [hI.1]
    exact he k s.2 hI.2) (s0, h) ⟨rfl, O⟩
set_option maxHeartbeats 4000000 in
theorem s109 {K0 : Int64 → zH → Option (α × zH × Nat)} {x y i : Int} {s : Int64} (O : Ob T hz h b σ) (g : inG σ.1 x y) (i1 : 0 ≤ i) (i2 : i < cn σ.1 x y) (hK : ∀ h', Ob T hz h' b σ → Gd (K0 (m8 σ.1 x y i s) h') C1 Q) : Gd (LL_sum_109 T b (iZ y) (iZ x) (iZ i) K0 FUEL s (iZ 0) h) (C1 + 16) Q := by
  refine gd_fold (L := LL_sum_109 T b (iZ y) (iZ x) (iZ i) K0) (g := fun k s => (((131 : Int64) * s + (iZ (mval σ.1 x y i k)).toInt64) + (iZ 7 * iZ x).toInt64) + (iZ 3 * iZ y).toInt64) (n := 8) (c := 2) (C1 := C1) (by omega) O (Nat.le_refl _) (fun k h O => ?_) (fun k j s h D hj O kk => ?_)
  · rw [LL_sum_109]
    simp only [q8]
    exact gd_t ((iZ_le (by omega) (by omega) (by omega) (by omega)).2 (by omega)) (hK h O)
  · rw [LL_sum_109]
    simp only [q8, q7, q3, q5, q1]
    refine gd_f (fun w => by have := (iZ_le (by omega) (by omega) (by omega) (by omega)).1 w; omega) ?_
    refine gd_cl (ca5 (k_mark O g i1 i2 (w := (j : Int)) (by omega) (by omega))) (by omega) (fun h' O' => ?_)
    rw [iZ_add]
    exact (kk h' O').mono (by omega)
set_option maxHeartbeats 4000000 in
theorem s91 {K0 : Int64 → zH → Option (α × zH × Nat)} {x y : Int} {s : Int64} (O : Ob T hz h b σ) (g : inG σ.1 x y) (hK : ∀ h', Ob T hz h' b σ → Gd (K0 (mC σ.1 x y s) h') C1 Q) : Gd (LL_sum_91 T b (iZ y) (iZ x) K0 FUEL s (iZ 0) h) (C1 + 35) Q := by
  have hc := O.ok.cn g
  have hr : (((cn σ.1 x y).toNat : Nat) : Int) = cn σ.1 x y := by omega
  refine gd_fold (L := LL_sum_91 T b (iZ y) (iZ x) K0) (g := fun i s => m8 σ.1 x y i s) (n := (cn σ.1 x y).toNat) (c := 17) (C1 := C1 + 1) (by omega) O (by omega) (fun k h O => ?_) (fun k j s h D hj O kk => ?_)
  · rw [LL_sum_91, hr]
    simp only [q4, q0]
    refine gd_cl (ca4 (k_marks O g)) (by omega) (fun h' O' => ?_)
    exact gd_t ((iZ_le (by omega) (by omega) (by omega) (by omega)).2 (by omega)) ((hK h' O').mono (by omega))
  · rw [LL_sum_91]
    simp only [q4, q0, q1]
    refine gd_cl (ca4 (k_marks O g)) (by omega) (fun h' O' => ?_)
    refine gd_f (fun w => by have := (iZ_le (by omega) (by omega) (by omega) (by omega)).1 w; omega) ?_
    rw [iZ_add]
    exact (s109 O' g (i := (j : Int)) (by omega) (by omega) kk).mono (by omega)
set_option maxHeartbeats 4000000 in
theorem s78 {K0 : Int64 → zH → Option (α × zH × Nat)} {y : Int} {s : Int64} (O : Ob T hz h b σ) (y1 : 0 ≤ y) (y2 : y < σ.1 0 1) (hK : ∀ h', Ob T hz h' b σ → Gd (K0 (mR σ.1 y s) h') C1 Q) : Gd (LL_sum_78 T b (iZ y) K0 FUEL s (iZ 0) h) (C1 + 325) Q := by
  have hW := O.ok.1
  have hr : (((σ.1 0 0).toNat : Nat) : Int) = σ.1 0 0 := by omega
  refine gd_fold (L := LL_sum_78 T b (iZ y) K0) (g := fun x s => mC σ.1 x y s) (n := (σ.1 0 0).toNat) (c := 36) (C1 := C1 + 1) (by omega) O (by omega) (fun k h O => ?_) (fun k j s h D hj O kk => ?_)
  · rw [LL_sum_78, hr]
    simp only [q0]
    refine gd_cl (ab0 O) (by omega) (fun h' O' => ?_)
    exact gd_t ((iZ_le (by omega) (by omega) (by omega) (by omega)).2 (by omega)) ((hK h' O').mono (by omega))
  · rw [LL_sum_78]
    simp only [q0, q1]
    refine gd_cl (ab0 O) (by omega) (fun h' O' => ?_)
    refine gd_f (fun w => by have := (iZ_le (by omega) (by omega) (by omega) (by omega)).1 w; omega) ?_
    rw [iZ_add]
    exact (s91 O' (x := (j : Int)) ⟨by omega, by omega, y1, y2⟩ kk).mono (by omega)
set_option maxHeartbeats 4000000 in
theorem s66 {K0 : Int64 → zH → Option (α × zH × Nat)} {s : Int64} (O : Ob T hz h b σ) (hK : ∀ h', Ob T hz h' b σ → Gd (K0 (mS σ.1 s) h') C1 Q) : Gd (LL_sum_66 T b K0 FUEL s (iZ 0) h) (C1 + 2935) Q := by
  have hW := O.ok.1
  have hr : (((σ.1 0 1).toNat : Nat) : Int) = σ.1 0 1 := by omega
  refine gd_fold (L := LL_sum_66 T b K0) (g := fun y s => mR σ.1 y s) (n := (σ.1 0 1).toNat) (c := 326) (C1 := C1 + 1) (by omega) O (by omega) (fun k h O => ?_) (fun k j s h D hj O kk => ?_)
  · rw [LL_sum_66, hr]
    simp only [q1]
    refine gd_cl (ab1 O) (by omega) (fun h' O' => ?_)
    exact gd_t ((iZ_le (by omega) (by omega) (by omega) (by omega)).2 (by omega)) ((hK h' O').mono (by omega))
  · rw [LL_sum_66]
    simp only [q0, q1]
    refine gd_cl (ab1 O) (by omega) (fun h' O' => ?_)
    refine gd_f (fun w => by have := (iZ_le (by omega) (by omega) (by omega) (by omega)).1 w; omega) ?_
    rw [iZ_add]
    exact (s78 O' (y := (j : Int)) (by omega) (by omega) kk).mono (by omega)
def Q3 (T : zT) (hz : zH) (b : Nat) (σ : Sg) : Int64 → zH → Prop := fun v h' => v = sumV σ.1 ∧ Ob T hz h' b σ
set_option maxHeartbeats 4000000 in
theorem fl_sum (O : Ob T hz h b σ) : Gd (FL_sum T b h) 2965 (Q3 T hz b σ) := by
  unfold FL_sum
  simp only [q0]
  refine gd_fold (L := LL_sum_4 T b _) (g := fun k s => (131 : Int64) * s + (iZ (vab σ.1 k)).toInt64) (n := 10) (c := 1) (C1 := 2955) (by omega) O (by omega) (fun k h O => ?_) (fun k j s h D hj O kk => ?_)
  · rw [LL_sum_4]
    simp only [q10]
    refine gd_t ((iZ_le (by omega) (by omega) (by omega) (by omega)).2 (by omega)) ?_
    refine gd_fold (L := LL_sum_31 T b _) (g := fun k s => (131 : Int64) * s + (iZ (vle σ.1 (k / 5) ((k % 5 : Nat) : Int))).toInt64) (n := 10) (c := 2) (C1 := 2935) (by omega) O (by omega) (fun k h O => ?_) (fun k j s h D hj O kk => ?_)
    · rw [LL_sum_31]
      simp only [q10]
      refine gd_t ((iZ_le (by omega) (by omega) (by omega) (by omega)).2 (by omega)) ?_
      exact (s66 O (C1 := 0) (fun h O => gd_ret ⟨rfl, O⟩)).mono (by omega)
    · rw [LL_sum_31]
      simp only [q10, q5, q3, q1, q0]
      refine gd_f (fun w => by have := (iZ_le (by omega) (by omega) (by omega) (by omega)).1 w; omega) ?_
      refine gd_s (zdivI_iZ (a := (j : Int)) (b := 5) (by omega) (by omega) (by omega) (by omega)) ?_
      refine gd_s (zremI_iZ (a := (j : Int)) (b := 5) (by omega) (by omega) (by omega) (by omega)) ?_
      rw [show (j : Int) / 5 = ((j / 5 : Nat) : Int) by omega, show (j : Int) % 5 = ((j % 5 : Nat) : Int) by omega]
      refine gd_cl (ca3 (k_letter O (L := j / 5) (w := ((j % 5 : Nat) : Int)) (by omega) (by omega) (by omega))) (by omega) (fun h' O' => ?_)
      rw [iZ_add]
      exact (kk h' O').mono (by omega)
  · rw [LL_sum_4]
    simp only [q10, q1]
    refine gd_f (fun w => by have := (iZ_le (by omega) (by omega) (by omega) (by omega)).1 w; omega) ?_
    refine gd_cl (cq_ab O (w := (j : Int)) (by omega) (by omega)) (by omega) (fun h' O' => ?_)
    rw [iZ_add]
    exact (kk h' O').mono (by omega)
end Su
