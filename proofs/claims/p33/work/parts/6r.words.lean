/-! the words of a letter: signs, lengths, numbers in order -/
def wS (w : Nat → Nat → Int) (i : Nat) : Int := if w 0 0 ≤ i then w 0 5 else w 3 i
def hy (w : Nat → Nat → Int) (j : Nat) : Int := if w 2 j = 26 then 1 else 0
section Wd
variable {α : Type} {T : zT} {hz h : zH} {b C c n C1 : Nat} {σ : Sg} {Q : α → zH → Prop}
theorem rd_wS {d : Nat → Nat → Int} (hO : OkD d) (L : Nat) : wS (rd d L) 0 = 0 ∧ (∀ i : Nat, (i : Int) < rd d L 0 0 → 0 ≤ wS (rd d L) i ∧ wS (rd d L) (i + 1) = wS (rd d L) i + wlen (rd d L) i ∧ wS (rd d L) i + wlen (rd d L) i ≤ rd d L 0 5 ∧ rd d L 3 i = wS (rd d L) i) ∧ wS (rd d L) (rd d L 0 0).toNat = rd d L 0 5 := by
  have hW := rd_ok hO L
  have hS := rd_so hO L
  have hJ := rd_J (L := L) hO
  obtain ⟨r1, r2, r3, r4, r5, r6, -, -, -, -, -, -, r13, r14⟩ := hW
  refine ⟨?_, fun i hi => ?_, ?_⟩
  · unfold wS
    by_cases z : rd d L 0 0 = 0
    · rw [if_pos (by omega)]; exact r13 z
    · rw [if_neg (by omega)]; exact (hJ.2 z).1
  · have g := wlen_in hS (rd_ok hO L) (i := (i : Int)) (by omega) hi
    have e : wS (rd d L) i = rd d L 3 i := by unfold wS; rw [if_neg (by omega)]
    rw [show ((i : Int)).toNat = i by omega] at g
    refine ⟨by omega, ?_, by omega, e.symm⟩
    rw [e]
    unfold wS wlen
    rw [show ((i : Int)).toNat = i by omega, show ((i : Int) + 1).toNat = i + 1 by omega]
    by_cases z : rd d L 0 0 ≤ (i : Int) + 1
    · rw [if_pos z, if_pos (by omega)]; omega
    · rw [if_neg z, if_neg (by omega)]; omega
  · unfold wS
    rw [if_pos (by omega)]
theorem wsg_j {d : Nat → Nat → Int} (hO : OkD d) (L : Nat) {i j : Nat} (hi : (i : Int) < rd d L 0 0) (hj : (j : Int) < wlen (rd d L) i) : wsg (rd d L) i j = rd d L 2 ((wS (rd d L) i).toNat + j) ∧ 0 ≤ wsg (rd d L) i j ∧ wsg (rd d L) i j ≤ 26 := by
  obtain ⟨-, a, -⟩ := rd_wS hO L
  obtain ⟨a1, a2, a3, a4⟩ := a i hi
  have e : wsg (rd d L) i j = rd d L 2 ((wS (rd d L) i).toNat + j) := by
    unfold wsg
    rw [if_pos ⟨by omega, hj⟩, show ((i : Int)).toNat = i by omega, a4, show (wS (rd d L) i + (j : Int)).toNat = (wS (rd d L) i).toNat + j by omega]
  have g := (rd_sg hO L).1 ((wS (rd d L) i).toNat + j) (by omega)
  rw [e]
  exact ⟨rfl, g⟩
set_option maxHeartbeats 4000000 in
set_option maxRecDepth 10000 in
theorem w170 {L : Nat} (hL : L < 2) {K0 : Int32 → Int32 → zH → Option (α × zH × Nat)} {x24 x25 x26 : Int32} {i : Nat} (O : Ob T hz h b σ) (hi : (i : Int) < rd σ.1 L 0 0) (hK : ∀ h', Ob T hz h' b σ → Gd (K0 (iZ (zsum (wS (rd σ.1 L) (i + 1)).toNat (hy (rd σ.1 L)))) (iZ 1) h') C1 Q) : Gd (LL_words_170 T b (iZ L) x24 x25 x26 (iZ i) (iZ (wlen (rd σ.1 L) i)) K0 FUEL (iZ (zsum (wS (rd σ.1 L) i).toNat (hy (rd σ.1 L)))) (iZ 1) (iZ 0) h) (C1 + 243) Q := by
  have hO := O.ok
  obtain ⟨-, a, -⟩ := rd_wS hO L
  obtain ⟨a1, a2, a3, a4⟩ := a i hi
  have gl := wlen_le (rd_so hO L) (rd_ok hO L) (i := (i : Int)) (by omega) hi
  have gn := (rd_ok hO L).2.1
  have hr : (((wlen (rd σ.1 L) i).toNat : Nat) : Int) = wlen (rd σ.1 L) i := by omega
  refine gd_for (L := fun k j (s : Int32 × Int32) h => LL_words_170 T b (iZ L) x24 x25 x26 (iZ i) (iZ (wlen (rd σ.1 L) i)) K0 k s.1 s.2 j h) (F := fun j => (iZ (zsum ((wS (rd σ.1 L) i).toNat + j) (hy (rd σ.1 L))), iZ 1)) (s0 := (iZ (zsum (wS (rd σ.1 L) i).toNat (hy (rd σ.1 L))), iZ 1)) (n := (wlen (rd σ.1 L) i).toNat) (c := 3) (C1 := C1) (by omega) O rfl (by omega) (fun k h O => ?_) (fun k j h D hj O kk => ?_)
  · dsimp only
    rw [LL_words_170, hr, show (wS (rd σ.1 L) i).toNat + (wlen (rd σ.1 L) i).toNat = (wS (rd σ.1 L) (i + 1)).toNat by omega]
    exact gd_t (Int32.le_refl _) (hK h O)
  · replace kk : ∀ h', Ob T hz h' b σ → Gd (LL_words_170 T b (iZ L) x24 x25 x26 (iZ i) (iZ (wlen (rd σ.1 L) i)) K0 k (iZ (zsum ((wS (rd σ.1 L) i).toNat + j) (hy (rd σ.1 L)) + hy (rd σ.1 L) ((wS (rd σ.1 L) i).toNat + j))) (iZ 1) (iZ ((j : Int) + 1)) h') D Q := kk
    dsimp only
    obtain ⟨e1, e2, e3⟩ := wsg_j hO L hi (j := j) (by omega)
    rw [LL_words_170]
    simp only [q0, q1, q7, q26]
    refine gd_f (fun w => by have := (iZ_le (by omega) (by omega) (by omega) (by omega)).1 w; omega) ?_
    refine gd_J (fun J => ∀ h, Ob T hz h b σ → Gd (J (iZ (wsg (rd σ.1 L) i j)) (iZ 1) (iZ 1) h) D Q) (fun h O => ?_) (fun J37 hJ37 => ?_)
    · refine gd_J (fun J => Gd (J (iZ 1) (iZ (hy (rd σ.1 L) ((wS (rd σ.1 L) i).toNat + j))) (iZ (zsum ((wS (rd σ.1 L) i).toNat + j) (hy (rd σ.1 L))))) D Q) ?_ (fun J41 hJ41 => ?_)
      · rw [iZ_add, iZ_add]
        exact kk h O
      · unfold hy at hJ41
        rw [← e1] at hJ41
        rw [show (iZ 1 &&& iZ 1) = iZ 1 by decide]
        refine gd_eq (by omega) (by omega) (by omega) (by omega) (fun z => ?_) (fun z => ?_)
        · rw [if_pos z] at hJ41; exact hJ41
        · rw [if_neg z] at hJ41; exact hJ41
    · refine gd_J (fun _ => True) trivial (fun J45 _ => ?_)
      refine gd_cl (ca7 (k_sign O hL (m := (i : Int)) (p := (j : Int)) (by omega) hi (by omega) (by omega))) (by omega) (fun h O => ?_)
      refine gd_lt (by omega) (by omega) (by omega) (by omega) (fun w => by omega) (fun _ => ?_)
      refine gd_lt (by omega) (by omega) (by omega) (by omega) (fun w => by omega) (fun _ => ?_)
      exact (hJ37 h O).mono (by omega)
set_option maxHeartbeats 4000000 in
set_option maxRecDepth 10000 in
theorem w100 {L : Nat} (hL : L < 2) {K0 : Int32 → Int32 → Int32 → Int32 → zH → Option (α × zH × Nat)} (O : Ob T hz h b σ) (hK : ∀ h', Ob T hz h' b σ → Gd (K0 (iZ (rd σ.1 L 0 5)) (iZ (lmax (rd σ.1 L))) (iZ (csg (rd σ.1 L) 26)) (iZ 1) h') C1 Q) : Gd (LL_words_100 T b (iZ L) (iZ (rd σ.1 L 0 0)) K0 FUEL (iZ 0) (iZ 0) (iZ 0) (iZ 1) (iZ 0) h) (C1 + 21303) Q := by
  have hO := O.ok
  have hW := rd_ok hO L
  have gn := hW.2.1
  have gp := hW.1
  have g5 := hW.2.2.2.2.2.1
  obtain ⟨a0, a, an⟩ := rd_wS hO L
  have hr : (((rd σ.1 L 0 0).toNat : Nat) : Int) = rd σ.1 L 0 0 := by omega
  refine gd_for (L := fun k i (s : Int32 × Int32 × Int32 × Int32) h => LL_words_100 T b (iZ L) (iZ (rd σ.1 L 0 0)) K0 k s.1 s.2.1 s.2.2.1 s.2.2.2 i h) (F := fun i => (iZ (wS (rd σ.1 L) i), iZ (accu (fun i s => if s < wlen (rd σ.1 L) i then wlen (rd σ.1 L) i else s) i 0), iZ (zsum (wS (rd σ.1 L) i).toNat (hy (rd σ.1 L))), iZ 1)) (s0 := (iZ 0, iZ 0, iZ 0, iZ 1)) (n := (rd σ.1 L 0 0).toNat) (c := 263) (C1 := C1) (by omega) O (by rw [a0]; rfl) (by omega) (fun k h O => ?_) (fun k i h D hi O kk => ?_)
  · dsimp only
    rw [LL_words_100, an, hr]
    exact gd_t (Int32.le_refl _) (hK h O)
  · have hi' : (i : Int) < rd σ.1 L 0 0 := by omega
    obtain ⟨a1, a2, a3, a4⟩ := a i hi'
    have gl := wlen_le (rd_so hO L) hW (i := (i : Int)) (by omega) hi'
    have e23 : 0 ≤ wsg (rd σ.1 L) i 0 ∧ wsg (rd σ.1 L) i 0 ≤ 26 := (wsg_j hO L hi' (j := 0) (by omega)).2
    obtain ⟨e2, e3⟩ := e23
    have hac : ∀ m : Nat, (m : Int) ≤ rd σ.1 L 0 0 → 0 ≤ accu (fun i s => if s < wlen (rd σ.1 L) i then wlen (rd σ.1 L) i else s) m 0 ∧ accu (fun i s => if s < wlen (rd σ.1 L) i then wlen (rd σ.1 L) i else s) m 0 ≤ 81 := by
      intro m
      induction m with
      | zero => intro _; exact ⟨Int.le_refl _, show (0 : Int) ≤ 81 by decide⟩
      | succ m ih =>
        intro hm
        have := ih (by omega)
        have := wlen_le (rd_so hO L) hW (i := (m : Int)) (by omega) (by omega)
        show 0 ≤ (if accu (fun i s => if s < wlen (rd σ.1 L) i then wlen (rd σ.1 L) i else s) m 0 < wlen (rd σ.1 L) m then wlen (rd σ.1 L) m else accu (fun i s => if s < wlen (rd σ.1 L) i then wlen (rd σ.1 L) i else s) m 0) ∧ (if accu (fun i s => if s < wlen (rd σ.1 L) i then wlen (rd σ.1 L) i else s) m 0 < wlen (rd σ.1 L) m then wlen (rd σ.1 L) m else accu (fun i s => if s < wlen (rd σ.1 L) i then wlen (rd σ.1 L) i else s) m 0) ≤ 81
        split <;> omega
    have ga := hac i (by omega)
    replace kk : ∀ h', Ob T hz h' b σ → Gd (LL_words_100 T b (iZ L) (iZ (rd σ.1 L 0 0)) K0 k (iZ (wS (rd σ.1 L) (i + 1))) (iZ (if accu (fun i s => if s < wlen (rd σ.1 L) i then wlen (rd σ.1 L) i else s) i 0 < wlen (rd σ.1 L) i then wlen (rd σ.1 L) i else accu (fun i s => if s < wlen (rd σ.1 L) i then wlen (rd σ.1 L) i else s) i 0)) (iZ (zsum (wS (rd σ.1 L) (i + 1)).toNat (hy (rd σ.1 L)))) (iZ 1) (iZ ((i : Int) + 1)) h') D Q := kk
    dsimp only
    rw [a2] at kk
    generalize accu (fun i s => if s < wlen (rd σ.1 L) i then wlen (rd σ.1 L) i else s) i 0 = A at kk ga ⊢
    rw [LL_words_100]
    simp only [qm1, qm9, qI2]
    simp only [q0, q1, q6, q7]
    refine gd_f (fun w => by have := (iZ_le (by omega) (by omega) (by omega) (by omega)).1 w; omega) ?_
    refine gd_J (fun J => ∀ h, Ob T hz h b σ → Gd (J (iZ (wlen (rd σ.1 L) i)) (iZ 1) (iZ 1) h) (D + 255) Q) (fun h O => ?_) (fun J21 hJ21 => ?_)
    · rw [show (iZ 1 &&& iZ 1) = iZ 1 by decide]
      refine (w170 hL O hi' (C1 := D + 12) (fun h O => ?_)).mono (by omega)
      rw [a2]
      refine gd_J (fun J => ∀ h, Ob T hz h b σ → Gd (J (iZ 1) (iZ 1) h) D Q) (fun h O => ?_) (fun J56 hJ56 => ?_)
      · refine gd_J (fun J => Gd (J (iZ (wS (rd σ.1 L) i + wlen (rd σ.1 L) i)) (iZ 1) (iZ (if A < wlen (rd σ.1 L) i then wlen (rd σ.1 L) i else A))) D Q) ?_ (fun J60 hJ60 => ?_)
        · rw [iZ_add]
          exact kk h O
        · rw [iZ_add, show (iZ 1 &&& iZ 1) = iZ 1 by decide]
          refine gd_le (by omega) (by omega) (by omega) (by omega) (fun z => ?_) (fun z => ?_)
          · rw [if_neg (by omega)] at hJ60; exact hJ60
          · rw [if_pos (by omega)] at hJ60; exact hJ60
      · refine gd_J (fun _ => True) trivial (fun J63 _ => ?_)
        refine gd_cl (ca7 (k_sign O hL (m := (i : Int)) (p := 0) (by omega) hi' (by omega) (by omega))) (by omega) (fun h O => ?_)
        obtain ⟨v, hv, R⟩ := k_find O hL (s := wsg (rd σ.1 L) i 0) e2 e3
        rw [iZ_long (a := wsg (rd σ.1 L) i 0) (by omega) (by omega)]
        refine gd_cn R (by omega) (fun h O => ?_)
        rcases hv with ⟨j, e, j1, j2, j3⟩ | ⟨e, j1⟩
        · have hji : j ≤ i := Nat.le_of_not_lt (fun w => j3 i w rfl)
          subst e
          refine gd_lt (by omega) (by omega) (by omega) (by omega) (fun w => by omega) (fun _ => ?_)
          refine gd_lt (by omega) (by omega) (by omega) (by omega) (fun w => by omega) (fun _ => ?_)
          refine gd_cl (ca7 (k_sign O hL (m := (j : Int)) (p := 0) (by omega) (by omega) (by omega) (by omega))) (by omega) (fun h O => ?_)
          refine gd_cl (ca7 (k_sign O hL (m := (i : Int)) (p := 0) (by omega) hi' (by omega) (by omega))) (by omega) (fun h O => ?_)
          exact gd_t (by rw [j2]) ((hJ56 h O).mono (by omega))
        · exact absurd rfl (j1 i hi)
    · refine gd_J (fun _ => True) trivial (fun J82 _ => ?_)
      refine gd_cl (ca6 (k_length O hL (m := (i : Int)) (by omega) hi')) (by omega) (fun h O => ?_)
      refine gd_le (by omega) (by omega) (by omega) (by omega) (fun w => by omega) (fun _ => ?_)
      refine gd_cl (ca7 (k_sign O hL (m := (i : Int)) (p := wlen (rd σ.1 L) i) (by omega) hi' (by omega) (by omega))) (by omega) (fun h O => ?_)
      refine gd_t (by unfold wsg; rw [if_neg (by omega)]) ?_
      refine gd_cl (ca7 (k_sign_neg O hL (m := (i : Int)) (by omega) hi')) (by omega) (fun h O => ?_)
      exact gd_t rfl ((hJ21 h O).mono (by omega))
set_option maxHeartbeats 4000000 in
set_option maxRecDepth 10000 in
theorem w336 {L : Nat} (hL : L < 2) {K0 : Int32 → zH → Option (α × zH × Nat)} {x102 x103 x104 x105 x106 : Int32} (O : Ob T hz h b σ) (hK : ∀ h', Ob T hz h' b σ → Gd (K0 (iZ (rd σ.1 L 0 5)) h') C1 Q) : Gd (LL_words_336 T b (iZ L) x102 x103 x104 x105 x106 K0 FUEL (iZ 0) (iZ 0) h) (C1 + 54) Q := by
  have hO := O.ok
  refine gd_for (L := fun k i (s : Int32) h => LL_words_336 T b (iZ L) x102 x103 x104 x105 x106 K0 k s i h) (F := fun i => iZ (zsum i (fun s => csg (rd σ.1 L) s))) (s0 := iZ 0) (n := 27) (c := 2) (C1 := C1) (by omega) O rfl (by omega) (fun k h O => ?_) (fun k i h D hi O kk => ?_)
  · rw [LL_words_336, csg_all (rd_ok hO L) (rd_sg hO L)]
    exact gd_t (by decide) (hK h O)
  · replace kk : ∀ h', Ob T hz h' b σ → Gd (LL_words_336 T b (iZ L) x102 x103 x104 x105 x106 K0 k (iZ (zsum i (fun s => csg (rd σ.1 L) s) + csg (rd σ.1 L) i)) (iZ ((i : Int) + 1)) h') D Q := kk
    rw [LL_words_336]
    simp only [q0, q1, r15, r27_]
    refine gd_f (fun w => by have := (iZ_le (by omega) (by omega) (by omega) (by omega)).1 w; omega) ?_
    refine gd_cl (ca15 (k_count O hL (s := (i : Int)) (by omega) (by omega))) (by omega) (fun h O => ?_)
    rw [iZ_add, iZ_add]
    exact (kk h O).mono (by omega)
set_option maxHeartbeats 4000000 in
set_option maxRecDepth 10000 in
theorem fl_words {L : Nat} (hL : L < 2) (O : Ob T hz h b σ) : Gd (FL_words T b (iZ L) h) 21400 (Q1 T hz b σ) := by
  have hO := O.ok
  have hW := hO.1
  have hlw : lwOk σ.1 L := hO.lw hL
  have h3 : 0 ≤ σ.1 3 L ∧ σ.1 3 L ≤ 1 := hlw.2.2.2.2
  have hk := rd_ok hO L
  have hJ := rd_J (L := L) hO
  obtain ⟨eP, eL⟩ := nPL hO (σ.1 3 L)
  obtain ⟨r1, r2, r3, r4, r5, r6, -, -, -, -, -, -, r13, r14⟩ := hk
  have g1 := rd_ok (OkD_gap (m := 1) hO (by omega) (by omega)) L
  have g3 := rd_ok (OkD_gap (m := 3) hO (by omega) (by omega)) L
  have gg := rd_gap (L := L) hO
  unfold FL_words
  simp only [qm1, qI1]
  simp only [q0, q1, q2, q3, q4, q6, q8, q26, r15, r18]
  refine gd_J (fun J => ∀ h, Ob T hz h b σ → Gd (J (iZ (rd σ.1 L 0 0)) (iZ 0) (iZ 0) (iZ 0) (iZ 1) h) 21380 (Q1 T hz b σ)) (fun h O => ?_) (fun J7 hJ7 => ?_)
  · refine (w100 hL O (C1 := 70) (fun h O => ?_)).mono (by omega)
    refine (w336 hL O (C1 := 10) (fun h O => ?_)).mono (by omega)
    refine gd_J (fun J => ∀ h, Ob T hz h b σ → Gd (J (iZ (if σ.1 3 L = 0 then σ.1 0 1 else σ.1 0 0)) h) 7 (Q1 T hz b σ)) (fun h O => ?_) (fun J118 hJ118 => ?_)
    · refine gd_J (fun J => ∀ h, Ob T hz h b σ → Gd (J (iZ 1) h) 0 (Q1 T hz b σ)) (fun h O => gd_t (Or.inr rfl) (gd_ret ⟨rfl, O⟩)) (fun J121 hJ121 => ?_)
      refine gd_J (fun _ => True) trivial (fun J123 _ => ?_)
      rw [iZ_add]
      refine gd_cl (cq_ab O (w := 8 + (L : Int)) (by omega) (by omega)) (by omega) (fun h O => ?_)
      have ev : vab σ.1 (8 + (L : Int)) = rd σ.1 L 0 1 := by
        have : L = 0 ∨ L = 1 := by omega
        rcases this with w | w <;> subst w <;> rfl
      rw [ev]
      refine gd_f (by decide) ?_
      refine gd_t rfl ?_
      refine gd_cl (ca15 (k_count O hL (s := 26) (by omega) (by omega))) (by omega) (fun h O => ?_)
      refine gd_t rfl ?_
      refine gd_cl (ca3 (k_letter O hL (w := 4) (by omega) (by omega))) (by omega) (fun h O => ?_)
      refine gd_t rfl ?_
      have hc : rd σ.1 L 0 5 ≤ rd σ.1 L 0 1 ∧ rd σ.1 L 0 1 - rd σ.1 L 0 5 < (if σ.1 3 L = 0 then σ.1 0 1 else σ.1 0 0) ∧ (rd σ.1 L 0 0 ≤ 0 ↔ rd σ.1 L 0 1 ≤ 0) := by
        rw [← eL]
        have h0 := (nLp hO (σ.1 3 L)).1
        by_cases z : rd σ.1 L 0 0 = 0
        · have z1 := hJ.1 z
          have z5 := r13 z
          omega
        · have z1 := hJ.2 z
          have z5 := r14 z
          omega
      have hc4 : (if σ.1 3 L = 0 then σ.1 0 1 else σ.1 0 0) ≤ 9 := by split <;> omega
      generalize hll : (if σ.1 3 L = 0 then σ.1 0 1 else σ.1 0 0) = ll at hc hc4 ⊢
      refine gd_lt (by omega) (by omega) (by omega) (by omega) (fun w => by omega) (fun _ => ?_)
      rw [iZ_sub]
      refine gd_le (by omega) (by omega) (by omega) (by omega) (fun w => by omega) (fun _ => ?_)
      refine gd_J (fun J => Gd (J (iZ (if rd σ.1 L 0 0 ≤ 0 then 0 else 1))) 0 (Q1 T hz b σ)) ?_ (fun J137 hJ137 => ?_)
      · refine gd_J (fun J => Gd (J (iZ (if rd σ.1 L 0 0 ≤ 0 then 0 else 1)) (iZ (if rd σ.1 L 0 0 ≤ 0 then 0 else 1))) 0 (Q1 T hz b σ)) (gd_t rfl (hJ121 h O)) (fun J140 hJ140 => ?_)
        refine (gd_le (C := 0) (by omega) (by omega) (by omega) (by omega) (fun w => ?_) (fun w => ?_)).mono (by omega)
        · rw [if_pos (hc.2.2.2 w)] at hJ140 ⊢; exact hJ140
        · rw [if_neg (by omega)] at hJ140 ⊢; exact hJ140
      · refine (gd_le (C := 0) (by omega) (by omega) (by omega) (by omega) (fun w => ?_) (fun w => ?_)).mono (by omega)
        · rw [if_pos w] at hJ137; exact hJ137
        · rw [if_neg (by omega)] at hJ137; exact hJ137
    · refine gd_cl (ca3 (k_letter O hL (w := 2) (by omega) (by omega))) (by omega) (fun h O => ?_)
      show Gd (if iZ (σ.1 3 L) = iZ 0 then _ else _) _ _
      refine gd_eq (by omega) (by omega) (by omega) (by omega) (fun z => ?_) (fun z => ?_)
      · rw [if_pos z] at hJ118
        refine gd_cl (ab1 O) (by omega) (fun h O => ?_)
        exact (hJ118 h O).mono (by omega)
      · rw [if_neg z] at hJ118
        refine gd_cl (ab0 O) (by omega) (fun h O => ?_)
        exact (hJ118 h O).mono (by omega)
  · refine gd_J (fun _ => True) trivial (fun J158 _ => ?_)
    refine gd_cl (ca3 (k_letter O hL (w := 3) (by omega) (by omega))) (by omega) (fun h O => ?_)
    show Gd (zcl (FL_call T b (iZ 6) (iZ L) (iZ (rd σ.1 L 0 0)) (iZ 0) (iZ 0) h) _) _ _
    refine gd_cl (ca6 (k_length_no O hL (m := rd σ.1 L 0 0) (by omega) (by omega) (by omega))) (by omega) (fun h O => ?_)
    refine gd_t rfl ?_
    refine gd_cl (ca6 (k_length_no O hL (m := -1) (by omega) (by omega) (by omega))) (by omega) (fun h O => ?_)
    refine gd_t rfl ?_
    refine gd_cl (ab6 O) (by omega) (fun h O => ?_)
    refine gd_cl (ca18 (k_with O hL (p := σ.1 0 3) (by omega) (by omega))) (by omega) (fun h O => ?_)
    rw [dput_same]
    refine gd_t rfl ?_
    refine gd_cl (ca18 (k_with O hL (p := 1) (by omega) (by omega))) (by omega) (fun h O => ?_)
    refine gd_cl (ca18 (k_with O hL (p := 3) (by omega) (by omega))) (by omega) (fun h O => ?_)
    have u1 := g1.1
    have u2 := g1.2.1
    have u3 := g3.1
    have u4 := g3.2.1
    refine gd_lt (by omega) (by omega) (by omega) (by omega) (fun w => by omega) (fun _ => ?_)
    exact (hJ7 h O).mono (by omega)
end Wd
