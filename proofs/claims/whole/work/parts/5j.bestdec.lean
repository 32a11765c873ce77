/-! call: bestDecision, the loops -/
section Bd
variable {T : zT} {h : zH} {b o : Nat} {n : Int} {tx : Nat → Int} {d : Nat → Nat → Int} {cnt nxt : Int} {dd : Nat → Nat → Nat → Int} {fl : Nat → Int} {ds : Nat → Nat → Nat → Int} {fs v tx7 r D kp kb : Nat → Int} {x : Int64}
theorem ftd_st {B : Nat} (hS : ShAt T h B d) (hO : OkD d) {X Y i : Int} (g : inG d X Y) (i1 : 0 ≤ i) (i2 : i < cn d X Y) {L : Nat} (hL : L < 2) {ρ : Type} (K0 : Int32 → Option ρ) (K1 : Unit → Option ρ) (k : Nat) : LX3_firstToDecide_3 T h B (iZ X) (iZ Y) (iZ L) K0 K1 (k + 1) (iZ i) = if dec d X Y i = -9 ∧ dec d X Y (1 - i) ≠ L then K0 (iZ i) else LX3_firstToDecide_3 T h B (iZ X) (iZ Y) (iZ L) K0 K1 k (iZ (i + 1)) := by
  have hcn := hO.cn g
  have hd := dec_in hO (i := i) g i1
  rw [LX3_firstToDecide_3.eq_2, marksIn_t hS hO g, zsn, if_neg (by rw [iZ_le (by omega) (by omega) (by omega) (by omega)]; omega)]
  simp only [zJn]
  rw [decision_eq hS hO g i1 (by omega), zsn, other_eq hS hO g i1 (by omega) (by omega) (by omega), zsn, qm9, q1, iZ_add, q0]
  by_cases c0 : dec d X Y i = -9
  · rw [if_pos (by rw [c0])]
    by_cases c1 : dec d X Y (1 - i) = L
    · have ec : (if ((0 : Int) ≤ L ∧ (L : Int) < 2) ∧ dec d X Y (1 - i) = L then (1 : Int) else 0) = 1 := if_pos ⟨⟨by omega, by omega⟩, c1⟩
      rw [ec, if_neg (show ¬ iZ 1 = iZ 0 by decide), if_neg (show ¬ (dec d X Y i = -9 ∧ dec d X Y (1 - i) ≠ L) from fun z => z.2 c1)]
    · have ec : (if ((0 : Int) ≤ L ∧ (L : Int) < 2) ∧ dec d X Y (1 - i) = L then (1 : Int) else 0) = 0 := if_neg (fun z => c1 z.2)
      rw [ec, if_pos rfl, if_pos ⟨c0, c1⟩]
  · rw [if_neg (by rw [iZ_eq (by omega) (by omega) (by omega) (by omega)]; exact c0), if_neg (show ¬ (dec d X Y i = -9 ∧ dec d X Y (1 - i) ≠ L) from fun z => c0 z.1)]
theorem ftd_end {B : Nat} (hS : ShAt T h B d) (hO : OkD d) {X Y i : Int} (g : inG d X Y) (i1 : 0 ≤ i) (i2 : i ≤ 9) (i3 : cn d X Y ≤ i) {L : Nat} {ρ : Type} (K0 : Int32 → Option ρ) (K1 : Unit → Option ρ) (k : Nat) : LX3_firstToDecide_3 T h B (iZ X) (iZ Y) (iZ L) K0 K1 (k + 1) (iZ i) = K1 () := by
  have hcn := hO.cn g
  rw [LX3_firstToDecide_3.eq_2, marksIn_t hS hO g, zsn, if_pos (by rw [iZ_le (by omega) (by omega) (by omega) (by omega)]; omega)]
theorem ftd_eq {B : Nat} (hS : ShAt T h B d) (hO : OkD d) {X Y : Int} (g : inG d X Y) {L : Nat} (hL : L < 2) : FX3_firstToDecide T B (iZ X) (iZ Y) (iZ L) h = some (iZ (ftd d L X Y)) := by
  have hcn := hO.cn g
  unfold FX3_firstToDecide ftd
  rw [sh_zo hS, zsn, show FUEL = 9997 + 1 + 1 + 1 from rfl, q0, qm9]
  by_cases c0 : cn d X Y = 0
  · rw [ftd_end hS hO g (by omega) (by omega) (by omega), if_neg (by omega), if_neg (by omega)]
  rw [ftd_st hS hO g (by omega) (by omega) hL]
  by_cases d0 : dec d X Y 0 = -9 ∧ dec d X Y 1 ≠ L
  · rw [if_pos (show dec d X Y 0 = -9 ∧ dec d X Y (1 - 0) ≠ L from d0), if_pos ⟨by omega, d0⟩]
  rw [if_neg (show ¬ (dec d X Y 0 = -9 ∧ dec d X Y (1 - 0) ≠ L) from d0), if_neg (show ¬ (0 < cn d X Y ∧ (dec d X Y 0 = -9 ∧ dec d X Y 1 ≠ L)) from fun z => d0 z.2)]
  by_cases c1 : cn d X Y = 1
  · rw [ftd_end hS hO g (by omega) (by omega) (by omega), if_neg (by omega)]
  rw [show (0 : Int) + 1 = 1 from rfl, ftd_st hS hO g (by omega) (by omega) hL]
  by_cases d1 : dec d X Y 1 = -9 ∧ dec d X Y 0 ≠ L
  · rw [if_pos (show dec d X Y 1 = -9 ∧ dec d X Y (1 - 1) ≠ L from d1), if_pos ⟨by omega, d1⟩]
  · rw [if_neg (show ¬ (dec d X Y 1 = -9 ∧ dec d X Y (1 - 1) ≠ L) from d1), if_neg (show ¬ (1 < cn d X Y ∧ (dec d X Y 1 = -9 ∧ dec d X Y 0 ≠ L)) from fun z => d1 z.2), ftd_end hS hO g (by omega) (by omega) (by omega)]
theorem q100 : (100 : Int32) = iZ 100 := rfl
theorem bd6_in (S : St T h b o n tx d cnt nxt dd fl ds fs v tx7 r D kp kb x) (hO : OkD d) {L : Nat} (hL : L < 2) {X : Nat} (hX : (X : Int) < d 0 0) {s0 : Int × Int} (hs : bd3 s0) {ρ : Type} (K0 : Int32 → Int32 → Option ρ) : LX6_bestDecision_27 T h b (iZ L) (iZ X) K0 FUEL (iZ (cf (bs6 d L) d (9 * X) s0).1) (iZ (cf (bs6 d L) d (9 * X) s0).2) (iZ 0) = K0 (iZ (cf (bs6 d L) d (9 * (X + 1)) s0).1) (iZ (cf (bs6 d L) d (9 * (X + 1)) s0).2) := by
  obtain ⟨w1, w2, w3, w4⟩ := hO.wh
  refine Exists.elim (loop_st (L := fun k i (s : Int × Int) => LX6_bestDecision_27 T h b (iZ L) (iZ X) K0 k (iZ s.1) (iZ s.2) i) (K := fun s => K0 (iZ s.1) (iZ s.2)) (I := fun j s => s = cf (bs6 d L) d (9 * X + j) s0) (n := (d 0 1).toNat) (by omega) (fun k i s hi hI => ?_) (fun k s hI => ?_) (s := cf (bs6 d L) d (9 * X) s0) rfl) ?_
  · have g : inG d X i := ⟨by omega, by omega, by omega, by omega⟩
    obtain ⟨b1, b2, b3, b4⟩ : bd3 s := by rw [hI]; exact cf_bd (fun x y s => bd3_6 hO x y s) hs _
    have hdb := dbt_le hO g
    have hf := ftd_in d L X i
    have ho := own_in hO g
    refine ⟨bs6 d L X i s, ?_, ?_⟩
    · have key : ∀ c : Int, c = dbt d X i → (if iZ (ftd d L X i) = iZ (-9) then LX6_bestDecision_27 T h b (iZ L) (iZ X) K0 k (iZ s.1) (iZ s.2) (iZ ((i : Int) + 1)) else if iZ c ≤ iZ s.2 then LX6_bestDecision_27 T h b (iZ L) (iZ X) K0 k (iZ s.1) (iZ s.2) (iZ ((i : Int) + 1)) else LX6_bestDecision_27 T h b (iZ L) (iZ X) K0 k (iZ (100 * X + 10 * i + ftd d L X i)) (iZ c) (iZ ((i : Int) + 1))) = LX6_bestDecision_27 T h b (iZ L) (iZ X) K0 k (iZ (bs6 d L X i s).1) (iZ (bs6 d L X i s).2) (iZ ((i : Int) + 1)) := fun c hc => by
        subst hc
        unfold bs6 u6
        by_cases c0 : ftd d L X i = -9
        · rw [if_pos (by rw [c0]), if_pos c0]
        · rw [if_neg (by rw [iZ_eq (by omega) (by omega) (by omega) (by omega)]; exact c0), if_neg c0]
          by_cases c1 : dbt d X i ≤ s.2
          · rw [if_pos (by rw [iZ_le (by omega) (by omega) (by omega) (by omega)]; exact c1), if_pos c1]
          · rw [if_neg (by rw [iZ_le (by omega) (by omega) (by omega) (by omega)]; exact c1), if_neg c1]
      show LX6_bestDecision_27 T h b (iZ L) (iZ X) K0 (k + 1) (iZ s.1) (iZ s.2) (iZ i) = _
      rw [LX6_bestDecision_27.eq_2, cs_r3 S.cs0, zsn, sh_g1 S.sh0, zsn, if_neg (by rw [iZ_le (by omega) (by omega) (by omega) (by omega)]; omega)]
      simp only [zJn]
      rw [zsn, own_eq S.sh0 hO g, zsn, qm9]
      by_cases c : own d X i = -9
      · rw [if_pos (by rw [c]), zsn, marksIn_t S.sh0 hO g, zsn, zsn, ftd_eq S.sh0 hO g hL, zsn, q100, q10, q1, iZ_mul, iZ_mul, iZ_add, iZ_add, iZ_add]
        exact key _ (by unfold dbt; rw [if_pos c])
      · rw [if_neg (by rw [iZ_eq (by omega) (by omega) (by omega) (by omega)]; exact c), zsn, ftd_eq S.sh0 hO g hL, zsn, q100, q10, q1, q0, iZ_mul, iZ_mul, iZ_add, iZ_add, iZ_add]
        exact key _ (by unfold dbt; rw [if_neg c])
    · show bs6 d L X i s = cf (bs6 d L) d (9 * X + i + 1) s0
      have e1 : (9 * X + i) / 9 = X := by omega
      have e2 : (9 * X + i) % 9 = i := by omega
      show _ = (if (((9 * X + i) / 9 : Nat) : Int) < d 0 0 ∧ (((9 * X + i) % 9 : Nat) : Int) < d 0 1 then bs6 d L ((9 * X + i) / 9 : Nat) ((9 * X + i) % 9 : Nat) (cf (bs6 d L) d (9 * X + i) s0) else cf (bs6 d L) d (9 * X + i) s0)
      rw [e1, e2, if_pos ⟨by omega, by omega⟩, ← hI]
  · show LX6_bestDecision_27 T h b (iZ L) (iZ X) K0 (k + 1) (iZ s.1) (iZ s.2) (iZ ((d 0 1).toNat : Nat)) = _
    rw [LX6_bestDecision_27.eq_2, cs_r3 S.cs0, zsn, sh_g1 S.sh0, zsn, if_pos (by rw [iZ_le (by omega) (by omega) (by omega) (by omega)]; omega)]
  · rintro s ⟨e1, e2⟩
    have e3 : cf (bs6 d L) d (9 * (X + 1)) s0 = s := by
      rw [e2, show 9 * (X + 1) = 9 * X + (d 0 1).toNat + (9 - (d 0 1).toNat) from by omega]
      exact cf_skip _ (fun j j1 j2 => by omega)
    rw [e3]
    exact e1
theorem bd6_out (S : St T h b o n tx d cnt nxt dd fl ds fs v tx7 r D kp kb x) (hO : OkD d) {L : Nat} (hL : L < 2) {s0 : Int × Int} (hs : bd3 s0) {ρ : Type} (K0 : Int32 → Option ρ) : LX6_bestDecision_12 T h b (iZ L) K0 FUEL (iZ s0.1) (iZ s0.2) (iZ 0) = K0 (iZ (cf (bs6 d L) d 81 s0).1) := by
  obtain ⟨w1, w2, w3, w4⟩ := hO.wh
  refine Exists.elim (loop_st (L := fun k i (s : Int × Int) => LX6_bestDecision_12 T h b (iZ L) K0 k (iZ s.1) (iZ s.2) i) (K := fun s => K0 (iZ s.1)) (I := fun j s => s = cf (bs6 d L) d (9 * j) s0) (n := (d 0 0).toNat) (by omega) (fun k i s hi hI => ?_) (fun k s hI => ?_) (s := s0) rfl) ?_
  · refine ⟨cf (bs6 d L) d (9 * (i + 1)) s0, ?_, rfl⟩
    show LX6_bestDecision_12 T h b (iZ L) K0 (k + 1) (iZ s.1) (iZ s.2) (iZ i) = _
    rw [LX6_bestDecision_12.eq_2, cs_r3 S.cs0, zsn, sh_g0 S.sh0, zsn, if_neg (by rw [iZ_le (by omega) (by omega) (by omega) (by omega)]; omega), hI, q0, bd6_in S hO hL (by omega) hs, q1, iZ_add]
  · show LX6_bestDecision_12 T h b (iZ L) K0 (k + 1) (iZ s.1) (iZ s.2) (iZ ((d 0 0).toNat : Nat)) = _
    rw [LX6_bestDecision_12.eq_2, cs_r3 S.cs0, zsn, sh_g0 S.sh0, zsn, if_pos (by rw [iZ_le (by omega) (by omega) (by omega) (by omega)]; omega)]
  · rintro s ⟨e1, e2⟩
    have e3 : cf (bs6 d L) d 81 s0 = s := by
      rw [e2, show 81 = 9 * (d 0 0).toNat + (81 - 9 * (d 0 0).toNat) from by omega]
      exact cf_skip _ (fun j j1 j2 => by omega)
    rw [e3]
    exact e1
def bd4 (s : Int × Int) : Prop := -9 ≤ s.1 ∧ s.1 ≤ 1000 ∧ 0 ≤ s.2 ∧ s.2 ≤ 162
theorem bd4_7 (hO : OkD d) {L : Nat} {X Y : Int} (g : inG d X Y) {i : Int} (i1 : 0 ≤ i) (i2 : i ≤ 1) {s : Int × Int} (h : bd4 s) : bd4 (ms7 d L X Y i s) := by
  have g9 := hO.g9 g
  have hb := dbt_sub hO g
  have hb1 := dbt_162 hO
  have hb2 := dbt_le hO g
  have hn : bd4 (100 * X + 10 * Y + i, gsum d (dbt d) - dbt d X Y) := ⟨by show -9 ≤ 100 * X + 10 * Y + i; omega, by show 100 * X + 10 * Y + i ≤ 1000; omega, hb, by show gsum d (dbt d) - dbt d X Y ≤ 162; omega⟩
  unfold ms7 u7
  split
  · split
    · exact hn
    · split
      · exact h
      · exact hn
  · exact h
theorem mi7_bd (hO : OkD d) {L : Nat} {X Y : Int} (g : inG d X Y) {s : Int × Int} (h : bd4 s) : ∀ i : Nat, i ≤ 2 → bd4 (mi7 d L X Y i s)
  | 0, _ => h
  | i + 1, hi => bd4_7 hO g (by omega) (by omega) (mi7_bd hO g h i (by omega))
theorem bd7_in (S : St T h b o n tx d cnt nxt dd fl ds fs v tx7 r D kp kb x) (hO : OkD d) (hP : Pg d r) {L : Nat} (hL : L < 2) {X Y : Int} (g : inG d X Y) (z : Int32) {rt : Nat → Int} (hd : Pg d rt) (M : Arr T h (b + 354 + 4) 739 rt) {s0 : Int × Int} (hs : bd4 s0) {ρ : Type} (K0 : Int32 → Int32 → zH → Option ρ) : ∃ h', LX7_bestDecision_75 T (b + 354) (iZ L) z (iZ X) (iZ Y) (iZ (cel X Y)) K0 FUEL (iZ s0.1) (iZ s0.2) (iZ 0) h = K0 (iZ (mi7 d L X Y (cn d X Y).toNat s0).1) (iZ (mi7 d L X Y (cn d X Y).toNat s0).2) h' ∧ Arr T h' (b + 354 + 4) 739 rt ∧ St T h' b o n tx d cnt nxt dd fl ds fs v tx7 r D kp kb x := by
  have hcn := hO.cn g
  have g9 := hO.g9 g
  have hce := cel_in g9
  refine Exists.elim (loop_st (L := fun k i (s : (Int × Int) × zH) => LX7_bestDecision_75 T (b + 354) (iZ L) z (iZ X) (iZ Y) (iZ (cel X Y)) K0 k (iZ s.1.1) (iZ s.1.2) i s.2) (K := fun s => K0 (iZ s.1.1) (iZ s.1.2) s.2) (I := fun j s => s.1 = mi7 d L X Y j s0 ∧ Arr T s.2 (b + 354 + 4) 739 rt ∧ St T s.2 b o n tx d cnt nxt dd fl ds fs v tx7 r D kp kb x) (n := (cn d X Y).toNat) (by omega) (fun k i s hi hI => ?_) (fun k s hI => ?_) (s := (s0, h)) ⟨rfl, M, S⟩) ?_
  · obtain ⟨e, M1, S1⟩ := hI
    obtain ⟨b1, b2, b3, b4⟩ : bd4 s.1 := by rw [e]; exact mi7_bd hO g hs i (by omega)
    have em := (zai_m S1.pg0 hP.1 hO g (i := i) (by omega) (by omega)).2.2.2
    have ed : d 8 (pl X Y i) = dec d X Y i := (dec_lt (by omega)).symm
    have hde := dec_in hO (i := i) g (by omega)
    have enext : ∀ t : Int × Int, t = ms7 d L X Y i s.1 → t = mi7 d L X Y (i + 1) s0 := fun t ht => by
      rw [ht, e]
      rfl
    by_cases c0 : dec d X Y i = -9
    · by_cases c1 : dec d X Y (1 - i) = L
      · have e7 : ms7 d L X Y i s.1 = s.1 := by unfold ms7; rw [if_neg (fun w => w.2 c1)]
        refine ⟨s, ?_, enext _ e7.symm, M1, S1⟩
        show LX7_bestDecision_75 T (b + 354) (iZ L) z (iZ X) (iZ Y) (iZ (cel X Y)) K0 (k + 1) (iZ s.1.1) (iZ s.1.2) (iZ i) s.2 = _
        rw [LX7_bestDecision_75.eq_2, mo_r5 S1.mo0, zsn, zai_c S1.pg0 hP.1 hO g, zsn, if_neg (by rw [iZ_le (by omega) (by omega) (by omega) (by omega)]; omega)]
        simp only [zJn]
        rw [markAt_eq, zsn, zsn, q3, iZ_add, em, zsn, ed, qm9, if_pos (by rw [c0]), zsn, canDecide_eq S1.pg0 hP.1 hO g (by omega) (by omega) (by omega) (by omega), zsn, show (if ((0 : Int) ≤ L ∧ (L : Int) < 2) ∧ dec d X Y (1 - i) = L then (0 : Int) else 1) = 0 from if_pos ⟨⟨by omega, by omega⟩, c1⟩, q0, if_pos rfl, q1, iZ_add]
      · obtain ⟨oD, eD⟩ := dbt_dec hO g (i := i) (by omega) (by omega) hL c0 c1
        have hb := dbt_sub hO g
        have hb1 := dbt_162 hO
        have hb2 := dbt_le hO g
        obtain ⟨h2, e2, M2, f2⟩ := decideOn_eq (i := i) (z := L) M1 hce.1 hce.2 (by omega) (by omega) (by omega) (by omega)
        rw [if_pos (show (0 : Int) ≤ L ∧ (L : Int) < 2 from ⟨by omega, by omega⟩)] at M2
        have S2 := S1.trial7 M2 f2
        have e3 : FX7_doubts T (b + 354 + 4) h2 = some (iZ (gsum d (dbt d) - dbt d X Y)) := by
          rw [← eD]
          exact doubts_eq M2 (Pg_dec hd hO g (by omega) (by omega)) oD
        obtain ⟨h4, e4, M4, f4⟩ := decideOn_eq (i := i) (z := 2) M2 hce.1 hce.2 (by omega) (by omega) (by omega) (by omega)
        rw [if_neg (show ¬ ((0 : Int) ≤ 2 ∧ (2 : Int) < 2) from by omega), upZ_up] at M4
        have er : upZ rt (cel X Y + 1 + 4 * (i : Int) + 3).toNat (-9) = rt := by
          have q := (hd.1.m X Y i g (by omega) (by omega)).2.2.2
          funext j
          unfold upZ
          by_cases w : j = (cel X Y + 1 + 4 * (i : Int) + 3).toNat
          · rw [if_pos w, w, q, ed, c0]
          · rw [if_neg w]
        rw [er] at M4
        have S4 := S2.trial7 M4 f4
        have e7 : ms7 d L X Y i s.1 = u7 (gsum d (dbt d) - dbt d X Y) (100 * X + 10 * Y + i) s.1 := by unfold ms7; rw [if_pos ⟨c0, c1⟩]
        refine ⟨(u7 (gsum d (dbt d) - dbt d X Y) (100 * X + 10 * Y + i) s.1, h4), ?_, enext _ e7.symm, M4, S4⟩
        show LX7_bestDecision_75 T (b + 354) (iZ L) z (iZ X) (iZ Y) (iZ (cel X Y)) K0 (k + 1) (iZ s.1.1) (iZ s.1.2) (iZ i) s.2 = _
        rw [LX7_bestDecision_75.eq_2, mo_r5 S1.mo0, zsn, zai_c S1.pg0 hP.1 hO g, zsn, if_neg (by rw [iZ_le (by omega) (by omega) (by omega) (by omega)]; omega)]
        simp only [zJn]
        rw [markAt_eq, zsn, zsn, q3, iZ_add, em, zsn, ed, qm9, if_pos (by rw [c0]), zsn, canDecide_eq S1.pg0 hP.1 hO g (by omega) (by omega) (by omega) (by omega), zsn, show (if ((0 : Int) ≤ L ∧ (L : Int) < 2) ∧ dec d X Y (1 - i) = L then (0 : Int) else 1) = 1 from if_neg (fun w => c1 w.2), q0, if_neg (show ¬ iZ 1 = iZ 0 by decide), mo_r6 S1.mo0, zsn, e2, zsn, mo_r6 S2.mo0, zsn, e3, zsn, zsn, q2, e4, zsn, q100, q10, q1, iZ_mul, iZ_mul, iZ_add, iZ_add, iZ_add]
        unfold u7
        by_cases w0 : s.1.1 = -9
        · rw [if_pos (by rw [w0]), if_pos w0]
        rw [if_neg (by rw [iZ_eq (by omega) (by omega) (by omega) (by omega)]; exact w0), if_neg w0]
        by_cases w : s.1.2 ≤ gsum d (dbt d) - dbt d X Y
        · rw [if_pos (by rw [iZ_le (by omega) (by omega) (by omega) (by omega)]; exact w), if_pos w]
        · rw [if_neg (by rw [iZ_le (by omega) (by omega) (by omega) (by omega)]; exact w), if_neg w]
    · have e7 : ms7 d L X Y i s.1 = s.1 := by unfold ms7; rw [if_neg (fun w => c0 w.1)]
      refine ⟨s, ?_, enext _ e7.symm, M1, S1⟩
      show LX7_bestDecision_75 T (b + 354) (iZ L) z (iZ X) (iZ Y) (iZ (cel X Y)) K0 (k + 1) (iZ s.1.1) (iZ s.1.2) (iZ i) s.2 = _
      rw [LX7_bestDecision_75.eq_2, mo_r5 S1.mo0, zsn, zai_c S1.pg0 hP.1 hO g, zsn, if_neg (by rw [iZ_le (by omega) (by omega) (by omega) (by omega)]; omega)]
      simp only [zJn]
      rw [markAt_eq, zsn, zsn, q3, iZ_add, em, zsn, ed, qm9, if_neg (by rw [iZ_eq (by omega) (by omega) (by omega) (by omega)]; exact c0), q1, iZ_add]
  · obtain ⟨e, M1, S1⟩ := hI
    show LX7_bestDecision_75 T (b + 354) (iZ L) z (iZ X) (iZ Y) (iZ (cel X Y)) K0 (k + 1) (iZ s.1.1) (iZ s.1.2) (iZ ((cn d X Y).toNat : Nat)) s.2 = _
    rw [LX7_bestDecision_75.eq_2, mo_r5 S1.mo0, zsn, zai_c S1.pg0 hP.1 hO g, zsn, if_pos (by rw [iZ_le (by omega) (by omega) (by omega) (by omega)]; omega)]
  · rintro s ⟨e1, e2, M', S'⟩
    refine ⟨s.2, ?_, M', S'⟩
    rw [← e2]
    exact e1
theorem bd7_out (S : St T h b o n tx d cnt nxt dd fl ds fs v tx7 r D kp kb x) (hO : OkD d) (hP : Pg d r) {L : Nat} (hL : L < 2) {rt : Nat → Int} (hd : Pg d rt) (M : Arr T h (b + 354 + 4) 739 rt) {s0 : Int × Int} (hs : bd4 s0) {ρ : Type} (K0 : Int32 → zH → Option ρ) : ∃ h', LX7_bestDecision_42 T (b + 354) (iZ L) K0 FUEL (iZ s0.1) (iZ s0.2) (iZ 0) h = K0 (iZ (cf (fun x y => mi7 d L x y (cn d x y).toNat) d 81 s0).1) h' ∧ St T h' b o n tx d cnt nxt dd fl ds fs v tx7 r D kp kb x ∧ bd4 (cf (fun x y => mi7 d L x y (cn d x y).toNat) d 81 s0) := by
  refine Exists.elim (loop_st (L := fun k i (s : (Int × Int) × zH) => LX7_bestDecision_42 T (b + 354) (iZ L) K0 k (iZ s.1.1) (iZ s.1.2) i s.2) (K := fun s => K0 (iZ s.1.1) s.2) (I := fun j s => s.1 = cf (fun x y => mi7 d L x y (cn d x y).toNat) d j s0 ∧ bd4 s.1 ∧ Arr T s.2 (b + 354 + 4) 739 rt ∧ St T s.2 b o n tx d cnt nxt dd fl ds fs v tx7 r D kp kb x) (n := 81) (by omega) (fun k i s hi hI => ?_) (fun k s hI => ?_) (s := (s0, h)) ⟨rfl, hs, M, S⟩) ?_
  · obtain ⟨e, hb, M1, S1⟩ := hI
    have hdv : zdivI (iZ i) (iZ 9) = some (iZ ((i / 9 : Nat) : Int)) := by
      rw [zdivI_iZ (by omega) (by omega) (by omega) (by omega)]
      rfl
    have hrm : zremI (iZ i) (iZ 9) = some (iZ ((i % 9 : Nat) : Int)) := by
      rw [zremI_iZ (by omega) (by omega) (by omega) (by omega)]
      rfl
    have hcf : cf (fun x y => mi7 d L x y (cn d x y).toNat) d (i + 1) s0 = if ((i / 9 : Nat) : Int) < d 0 0 ∧ ((i % 9 : Nat) : Int) < d 0 1 then mi7 d L (i / 9 : Nat) (i % 9 : Nat) (cn d (i / 9 : Nat) (i % 9 : Nat)).toNat s.1 else s.1 := by
      rw [e]
      rfl
    by_cases c : ((i / 9 : Nat) : Int) < d 0 0 ∧ ((i % 9 : Nat) : Int) < d 0 1
    · have g : inG d (i / 9 : Nat) (i % 9 : Nat) := ⟨by omega, c.1, by omega, c.2⟩
      have hcn := hO.cn g
      obtain ⟨h2, e2, M2, S2⟩ := bd7_in S1 hO hP hL g (iZ i) hd M1 hb (fun (x56 : Int32) (x57 : Int32) (h58 : zH) => LX7_bestDecision_42 T (b + 354) (iZ L) K0 k x56 x57 (iZ i + 1) h58)
      refine ⟨(mi7 d L (i / 9 : Nat) (i % 9 : Nat) (cn d (i / 9 : Nat) (i % 9 : Nat)).toNat s.1, h2), ?_, ?_, mi7_bd hO g hb _ (by omega), M2, S2⟩
      · show LX7_bestDecision_42 T (b + 354) (iZ L) K0 (k + 1) (iZ s.1.1) (iZ s.1.2) (iZ i) s.2 = _
        rw [LX7_bestDecision_42.eq_2, q81, if_neg (by rw [iZ_le (by omega) (by omega) (by omega) (by omega)]; omega), q9, hdv, zsn, hrm, zsn, cellAt_eq, zsn, q0, e2, q1, iZ_add]
      · show _ = _
        rw [hcf, if_pos c]
    · have g' : ¬ inG d (i / 9 : Nat) (i % 9 : Nat) := fun w => c ⟨w.2.1, w.2.2.2⟩
      have ez : zai T s.2 (b + 354 + 3) (iZ (cel (i / 9 : Nat) (i % 9 : Nat))) = some (iZ 0) := by
        have hce := cel_in (x := (i / 9 : Nat)) (y := (i % 9 : Nat)) ⟨by omega, by omega, by omega, by omega⟩
        rw [zai_p S1.pg0 (by omega) (by omega), hP.1.o _ _ (by omega) (by omega) (by omega) (by omega) g']
      refine ⟨s, ?_, ?_, hb, M1, S1⟩
      · show LX7_bestDecision_42 T (b + 354) (iZ L) K0 (k + 1) (iZ s.1.1) (iZ s.1.2) (iZ i) s.2 = _
        rw [LX7_bestDecision_42.eq_2, q81, if_neg (by rw [iZ_le (by omega) (by omega) (by omega) (by omega)]; omega), q9, hdv, zsn, hrm, zsn, cellAt_eq, zsn, show FUEL = 9999 + 1 from rfl, LX7_bestDecision_75.eq_2, mo_r5 S1.mo0, zsn, ez, zsn, q0, if_pos (by rw [iZ_le (by omega) (by omega) (by omega) (by omega)]; omega), q1, iZ_add]
      · show _ = _
        rw [hcf, if_neg c]
  · show LX7_bestDecision_42 T (b + 354) (iZ L) K0 (k + 1) (iZ s.1.1) (iZ s.1.2) (iZ (81 : Nat)) s.2 = _
    rw [LX7_bestDecision_42.eq_2, q81, if_pos (by rw [iZ_le (by omega) (by omega) (by omega) (by omega)]; omega)]
  · rintro s ⟨e1, e2, hb, M', S'⟩
    rw [← e2]
    exact ⟨s.2, e1, S', hb⟩
theorem c_bestDecision (S : St T h b o n tx d cnt nxt dd fl ds fs v tx7 r D kp kb x) (R : Rel n tx d cnt nxt dd fl ds fs v tx7 r D kp kb) {k : Int} (k1 : -2147483648 ≤ k) (k2 : k < 2147483648) : Rnd T b o (FL_bestDecision T b (iZ k) o h) (FX7_bestDecision T (b + 354) (iZ k)) := by
  have hO := R.2.1.1
  have hP := R.2.1.2
  unfold FL_bestDecision
  by_cases g : 0 ≤ k ∧ k < 2
  case neg =>
    obtain ⟨j1, g1, J1⟩ := S.no R (c := 1) (by omega) (by omega)
    refine rnd_ex (E := "java/lang/IndexOutOfBoundsException") (h' := h) (c := 1) (by omega) ?_ ?_ ⟨0, j1, by omega, ?_, J1⟩
    · unfold FX6_bestDecision
      rw [cs_zo S.cs0, zsn, chkLet_f k1 k2 g, zbx_er]
    · rw [if_pos rfl, q1]
    · unfold FX7_bestDecision
      rw [mo_zo S.mo0, zsn]
      simp only [zJn]
      rw [isLet7_f k1 k2 g, zsn, q0, if_pos rfl, q1, g1, zb2n, if_neg (by decide)]
  obtain ⟨L, rfl⟩ : ∃ L : Nat, k = L := ⟨k.toNat, by omega⟩
  have hL : L < 2 := by omega
  have h6 : bd3 (-9, -1) := ⟨by show (-9 : Int) ≤ -9; omega, by show (-9 : Int) ≤ 1000; omega, by show (-1 : Int) ≤ -1; omega, by show (-1 : Int) ≤ 162; omega⟩
  have h7 : bd4 (-9, 0) := ⟨by show (-9 : Int) ≤ -9; omega, by show (-9 : Int) ≤ 1000; omega, by show (0 : Int) ≤ 0; omega, by show (0 : Int) ≤ 162; omega⟩
  have e2 := bd6_out S hO hL h6 (fun (x34 : Int32) => some (Except.ok (ε := String) x34, h))
  have hr : rb (gsum d (dbt d)) (-9, -1) (-9, 0) := ⟨rfl, fun _ => rfl, fun w => absurd rfl w⟩
  have ee := (rb_all hO hL hr 81).1
  have hb := cf_bd (fun x y s => bd3_6 (L := L) hO x y s) h6 81
  have hb1 := hb.1
  have hb2 := hb.2.1
  rw [ee] at e2 hb1 hb2
  refine rnd_ok (val := (cf (fun x y => mi7 d L x y (cn d x y).toNat) d 81 (-9, 0)).1) (by omega) ?_ S (fun q K => ?_)
  · unfold FX6_bestDecision
    rw [cs_zo S.cs0, zsn, chkLet_t (by omega) (by omega), zbx_ok, qm9, qm1, q0]
    exact e2
  · obtain ⟨k1', g1, K1⟩ := K.yes
    obtain ⟨k2', r1, g2, hr1, M2, K2⟩ := K1.tt7
    obtain ⟨k3', g3, K3, -⟩ := bd7_out K2 hO hP hL (rt := r1) (Pg_same (SameD.refl d) hO hP hr1) M2 h7 (fun (x42 : Int32) (h43 : zH) => some (x42, h43))
    refine ⟨k3', ?_, fin_ref K3 R⟩
    unfold FX7_bestDecision
    rw [mo_zo K.mo0, zsn]
    simp only [zJn]
    rw [isLet7_t (by omega) (by omega), zsn, q0, if_neg (by decide), g1, zb2n, if_pos rfl, mo_r5 K1.mo0, zsn, mo_r6 K1.mo0, zsn, g2, zsn, qm9]
    exact g3
end Bd
