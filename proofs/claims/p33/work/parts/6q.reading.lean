/-! in reading order the numbers of words never fall, and rise by one at most -/
section Rdg
variable {T : zT} {hz h : zH} {b : Nat} {σ : Sg}
theorem nPL {d : Nat → Nat → Int} (hO : OkD d) (f : Int) : ((nP d f : Nat) : Int) = (if f = 0 then d 0 0 else d 0 1) ∧ ((nL d f : Nat) : Int) = (if f = 0 then d 0 1 else d 0 0) := by
  have h1 := hO.1
  unfold nP nL
  by_cases c : f = 0
  · rw [if_pos c, if_pos c]; omega
  · rw [if_neg c, if_neg c]; omega
theorem nPL_le {d : Nat → Nat → Int} (hO : OkD d) (f : Int) : nP d f * nL d f ≤ 81 ∧ ((nP d f * nL d f : Nat) : Int) = d 0 0 * d 0 1 := by
  obtain ⟨a, c⟩ := nLP hO f
  obtain ⟨e1, e2⟩ := nPL hO f
  refine ⟨Nat.mul_le_mul c a, ?_⟩
  rw [Int.natCast_mul, e1, e2]
  by_cases c : f = 0
  · rw [if_pos c, if_pos c]
  · rw [if_neg c, if_neg c]
    exact Int.mul_comm _ _
set_option maxHeartbeats 4000000 in
set_option maxRecDepth 10000 in
theorem fl_reading {L : Nat} (hL : L < 2) (O : Ob T hz h b σ) : Gd (FL_reading T b (iZ L) h) 168 (Q1 T hz b σ) := by
  have hO := O.ok
  have hW := hO.1
  have hlw : lwOk σ.1 L := hO.lw hL
  have h3 : 0 ≤ σ.1 3 L ∧ σ.1 3 L ≤ 1 := hlw.2.2.2.2
  have hb := (rd_ok hO L)
  obtain ⟨n81, ne⟩ := nPL_le hO (σ.1 3 L)
  obtain ⟨eP, eL⟩ := nPL hO (σ.1 3 L)
  unfold FL_reading
  simp only [qm1]
  simp only [q0, q1, q2, q3]
  refine gd_J (fun J => ∀ h, Ob T hz h b σ → Gd (J (iZ (if σ.1 3 L = 0 then 1 else 0)) h) 166 (Q1 T hz b σ)) (fun h O => ?_) (fun J3 hJ3 => ?_)
  · refine gd_cl (ab0 O) (by omega) (fun h O => ?_)
    refine gd_cl (ab1 O) (by omega) (fun h O => ?_)
    refine gd_for (L := fun k i (s : Int32 × Int32) h => LL_reading_40 T b (iZ L) (iZ (if σ.1 3 L = 0 then 1 else 0)) (iZ (σ.1 0 0)) (iZ (σ.1 0 1)) _ k s.1 s.2 i h) (F := fun q => (iZ (wq σ.1 L (σ.1 3 L) q 0 0 - 1), iZ 1)) (s0 := (iZ (-1), iZ 1)) (n := nP σ.1 (σ.1 3 L) * nL σ.1 (σ.1 3 L)) (c := 2) (C1 := 2) (by omega) O (show (iZ (-1), iZ 1) = (iZ (0 - 1), iZ 1) from rfl) (by omega) (fun k h O => ?_) (fun k q h D hq O kk => ?_)
    · dsimp only
      rw [LL_reading_40, iZ_mul, ← ne, ← rd_wq hO]
      refine gd_t (Int32.le_refl _) ?_
      refine gd_J (fun J => ∀ h, Ob T hz h b σ → Gd (J (iZ 1) h) 0 (Q1 T hz b σ)) (fun h O => gd_t (Or.inr rfl) (gd_ret ⟨rfl, O⟩)) (fun J hJ => ?_)
      refine gd_J (fun _ => True) trivial (fun J9 _ => ?_)
      refine gd_f (by decide) ?_
      refine gd_cl (ca3 (k_letter O hL (w := 3) (by omega) (by omega))) (by omega) (fun h O => ?_)
      refine gd_t ?_ (hJ h O)
      rw [iZ_add, show rd σ.1 L 0 0 - 1 + 1 = rd σ.1 L 0 0 by omega]
      rfl
    · dsimp only at kk ⊢
      obtain ⟨g, hl, hp, hk⟩ := wq_at (L := (L : Int)) hO hq
      have st := wq_set (L := (L : Int)) hO hq
      have ra := rd_at (L := L) hO hq
      have hk' := wq_end (L := (L : Int)) hO (show q + 1 ≤ _ from hq)
      have a00 := hk.1
      have a01 := hk.2.1
      have b00 := hk'.1
      have b01 := hk'.2.1
      have rb := (rd_sg hO L).2 (ci σ.1 (σ.1 3 L) q) (by unfold ci; have := hO.g9 g; omega)
      rw [LL_reading_40, iZ_mul, ← ne]
      simp only [q0, q1, q8, qm9]
      refine gd_f (fun w => by have := (iZ_le (by omega) (by omega) (by omega) (by omega)).1 w; omega) ?_
      refine gd_J (fun J => Gd (J (iZ (qx σ.1 (σ.1 3 L) q))) (D + 2) (Q1 T hz b σ)) ?_ (fun J22 hJ22 => ?_)
      · refine gd_J (fun J => Gd (J (iZ (qx σ.1 (σ.1 3 L) q)) (iZ (qy σ.1 (σ.1 3 L) q))) (D + 2) (Q1 T hz b σ)) ?_ (fun J25 hJ25 => ?_)
        · refine gd_J (fun J => ∀ h, Ob T hz h b σ → Gd (J (iZ (wq σ.1 L (σ.1 3 L) (q + 1) 0 0 - 1)) (iZ 1) h) D (Q1 T hz b σ)) (fun h O => ?_) (fun J29 hJ29 => ?_)
          · rw [iZ_add]
            exact kk h O
          · refine gd_cl (ca8 (k_at O hL g)) (by omega) (fun h O => ?_)
            have hJ := fun h O => (hJ29 h O).mono (show D ≤ D + 2 - 2 by omega)
            by_cases c : sAt σ.1 L (qx σ.1 (σ.1 3 L) q) (qy σ.1 (σ.1 3 L) q) = -9
            · obtain ⟨s1, s2⟩ := st.1 c
              rw [s1] at hJ
              exact gd_t (by rw [show rd σ.1 L 1 (9 * qx σ.1 (σ.1 3 L) q + qy σ.1 (σ.1 3 L) q).toNat = -9 from ra.trans s2]) (hJ h O)
            · obtain ⟨s1, s2, s3⟩ := st.2 c
              have ev : rd σ.1 L 1 (9 * qx σ.1 (σ.1 3 L) q + qy σ.1 (σ.1 3 L) q).toNat = wq σ.1 L (σ.1 3 L) (q + 1) 0 0 - 1 := ra.trans s1
              rw [ev]
              refine gd_eq (by omega) (by omega) (by omega) (by omega) (fun z => by omega) (fun _ => ?_)
              refine gd_J (fun J => Gd (J (iZ 1) (iZ 1)) (D + 2 - 2) (Q1 T hz b σ)) ?_ (fun J36 hJ36 => ?_)
              · rw [show (iZ 1 &&& iZ 1) = iZ 1 by decide]
                exact hJ h O
              · refine gd_J (fun J => Gd (J (iZ 1)) (D + 2 - 2) (Q1 T hz b σ)) hJ36 (fun J38 hJ38 => ?_)
                refine gd_eq (by omega) (by omega) (by omega) (by omega) (fun _ => hJ38) (fun z => ?_)
                exact gd_t (by rw [iZ_add, show wq σ.1 L (σ.1 3 L) q 0 0 - 1 + 1 = wq σ.1 L (σ.1 3 L) (q + 1) 0 0 - 1 by omega]) hJ38
        · by_cases c : σ.1 3 L = 0
          · rw [if_pos c] at eP eL ⊢
            refine gd_f (by decide) (gd_s (zdivI_iZ (a := (q : Int)) (b := σ.1 0 0) (by omega) (by omega) (by omega) (by omega)) ?_)
            have e : (q : Int) / σ.1 0 0 = qy σ.1 (σ.1 3 L) q := by
              unfold qy cY
              rw [if_pos c, Int.natCast_ediv, eP]
            rw [e]
            exact hJ25
          · rw [if_neg c] at eP eL ⊢
            refine gd_t rfl (gd_s (zremI_iZ (a := (q : Int)) (b := σ.1 0 1) (by omega) (by omega) (by omega) (by omega)) ?_)
            have e : (q : Int) % σ.1 0 1 = qy σ.1 (σ.1 3 L) q := by
              unfold qy cY
              rw [if_neg c, Int.natCast_emod, eP]
            rw [e]
            exact hJ25
      · by_cases c : σ.1 3 L = 0
        · rw [if_pos c] at eP eL ⊢
          refine gd_f (by decide) (gd_s (zremI_iZ (a := (q : Int)) (b := σ.1 0 0) (by omega) (by omega) (by omega) (by omega)) ?_)
          have e : (q : Int) % σ.1 0 0 = qx σ.1 (σ.1 3 L) q := by
            unfold qx cX
            rw [if_pos c, Int.natCast_emod, eP]
          rw [e]
          exact hJ22
        · rw [if_neg c] at eP eL ⊢
          refine gd_t rfl (gd_s (zdivI_iZ (a := (q : Int)) (b := σ.1 0 1) (by omega) (by omega) (by omega) (by omega)) ?_)
          have e : (q : Int) / σ.1 0 1 = qx σ.1 (σ.1 3 L) q := by
            unfold qx cX
            rw [if_neg c, Int.natCast_ediv, eP]
          rw [e]
          exact hJ22
  · refine gd_cl (ca3 (k_letter O hL (w := 2) (by omega) (by omega))) (by omega) (fun h O => ?_)
    show Gd (if iZ (σ.1 3 L) = iZ 0 then _ else _) _ _
    refine gd_eq (by omega) (by omega) (by omega) (by omega) (fun z => ?_) (fun z => ?_)
    · rw [if_pos z] at hJ3; exact hJ3 h O
    · rw [if_neg z] at hJ3; exact hJ3 h O
end Rdg
