/-! call: bestDecision, the loops -/
section Bd
variable {T : zT} {hz h : zH} {b o : Nat} {n : Int} {tx : Nat → Int} {d : Nat → Nat → Int} {cnt nxt : Int} {dd : Nat → Nat → Nat → Int} {fl : Nat → Int} {ds : Nat → Nat → Nat → Int} {fs v tx7 r D kp kb : Nat → Int} {x : Int64}
theorem ftd_st {B : Nat} (hS : ShAt T h B d) (hO : OkD d) {X Y i : Int} (g : inG d X Y) (i1 : 0 ≤ i) (i2 : i < cn d X Y) {L : Nat} (hL : L < 2) {ρ : Type} (K0 : Int32 → Option ρ) (K1 : Unit → Option ρ) (k : Nat) : LX3_firstToDecide_3 T h B (iZ X) (iZ Y) (iZ L) K0 K1 (k + 1) (iZ i) = if dec d X Y i = -9 ∧ dec d X Y (1 - i) ≠ L then K0 (iZ i) else LX3_firstToDecide_3 T h B (iZ X) (iZ Y) (iZ L) K0 K1 k (iZ (i + 1)) := by
  have hcn := hO.cn g
  have hd := dec_in hO (i := i) g i1
  rw [LX3_firstToDecide_3.eq_2, marksIn_t hS hO g, zsn, if_neg (by rw [iZ_le (by omega) (by omega) (by omega) (by omega)]; omega)]
  simp only [zJn]
  rw [decision_eq hS hO g i1 (by omega), zsn, other_eq hS hO g i1 (by omega) (by omega) (by omega), zsn, qm9, q1, iZ_add, q0]
  by_cases c0 : dec d X Y i = -9
  · rw [if_pos (by rw [c0])]
    by_cases c1 : dec d X Y (1 - i) = L
    · have ec : (if ((0 : Int) ≤ L ∧ (L : Int) < 2) ∧ dec d X Y (1 - i) = L then (1 : Int) else 0) = 1 := if_pos ⟨⟨by omega, by omega⟩, c1⟩
      rw [ec, if_neg (show ¬ iZ 1 = iZ 0 by decide), if_neg (show ¬ (dec d X Y i = -9 ∧ dec d X Y (1 - i) ≠ L) from fun z => z.2 c1)]
    · have ec : (if ((0 : Int) ≤ L ∧ (L : Int) < 2) ∧ dec d X Y (1 - i) = L then (1 : Int) else 0) = 0 := if_neg (fun z => c1 z.2)
      rw [ec, if_pos rfl, if_pos ⟨c0, c1⟩]
  · rw [if_neg (by rw [iZ_eq (by omega) (by omega) (by omega) (by omega)]; exact c0), if_neg (show ¬ (dec d X Y i = -9 ∧ dec d X Y (1 - i) ≠ L) from fun z => c0 z.1)]
theorem ftd_end {B : Nat} (hS : ShAt T h B d) (hO : OkD d) {X Y i : Int} (g : inG d X Y) (i1 : 0 ≤ i) (i2 : i ≤ 9) (i3 : cn d X Y ≤ i) {L : Nat} {ρ : Type} (K0 : Int32 → Option ρ) (K1 : Unit → Option ρ) (k : Nat) : LX3_firstToDecide_3 T h B (iZ X) (iZ Y) (iZ L) K0 K1 (k + 1) (iZ i) = K1 () := by
  have hcn := hO.cn g
  rw [LX3_firstToDecide_3.eq_2, marksIn_t hS hO g, zsn, if_pos (by rw [iZ_le (by omega) (by omega) (by omega) (by omega)]; omega)]
theorem ftd_eq {B : Nat} (hS : ShAt T h B d) (hO : OkD d) {X Y : Int} (g : inG d X Y) {L : Nat} (hL : L < 2) : FX3_firstToDecide T B (iZ X) (iZ Y) (iZ L) h = some (iZ (ftd d L X Y)) := by
  have hcn := hO.cn g
  unfold FX3_firstToDecide ftd
  rw [sh_zo hS, zsn, show FUEL = 9997 + 1 + 1 + 1 from rfl, q0, qm9]
  by_cases c0 : cn d X Y = 0
  · rw [ftd_end hS hO g (by omega) (by omega) (by omega), if_neg (by omega), if_neg (by omega)]
  rw [ftd_st hS hO g (by omega) (by omega) hL]
  by_cases d0 : dec d X Y 0 = -9 ∧ dec d X Y 1 ≠ L
  · rw [if_pos (show dec d X Y 0 = -9 ∧ dec d X Y (1 - 0) ≠ L from d0), if_pos ⟨by omega, d0⟩]
  rw [if_neg (show ¬ (dec d X Y 0 = -9 ∧ dec d X Y (1 - 0) ≠ L) from d0), if_neg (show ¬ (0 < cn d X Y ∧ (dec d X Y 0 = -9 ∧ dec d X Y 1 ≠ L)) from fun z => d0 z.2)]
  by_cases c1 : cn d X Y = 1
  · rw [ftd_end hS hO g (by omega) (by omega) (by omega), if_neg (by omega)]
  rw [show (0 : Int) + 1 = 1 from rfl, ftd_st hS hO g (by omega) (by omega) hL]
  by_cases d1 : dec d X Y 1 = -9 ∧ dec d X Y 0 ≠ L
  · rw [if_pos (show dec d X Y 1 = -9 ∧ dec d X Y (1 - 1) ≠ L from d1), if_pos ⟨by omega, d1⟩]
  · rw [if_neg (show ¬ (dec d X Y 1 = -9 ∧ dec d X Y (1 - 1) ≠ L) from d1), if_neg (show ¬ (1 < cn d X Y ∧ (dec d X Y 1 = -9 ∧ dec d X Y 0 ≠ L)) from fun z => d1 z.2), ftd_end hS hO g (by omega) (by omega) (by omega)]
theorem q100 : (100 : Int32) = iZ 100 := rfl
theorem bd6_in (S : St T hz h b n tx d cnt nxt dd fl ds fs) (hO : OkD d) {L : Nat} (hL : L < 2) {X : Nat} (hX : (X : Int) < d 0 0) {s0 : Int × Int} (hs : bd3 s0) {ρ : Type} (K0 : Int32 → Int32 → Option ρ) : LX6_bestDecision_27 T h b (iZ L) (iZ X) K0 FUEL (iZ (cf (bs6 d L) d (9 * X) s0).1) (iZ (cf (bs6 d L) d (9 * X) s0).2) (iZ 0) = K0 (iZ (cf (bs6 d L) d (9 * (X + 1)) s0).1) (iZ (cf (bs6 d L) d (9 * (X + 1)) s0).2) := by
  obtain ⟨w1, w2, w3, w4⟩ := hO.wh
  refine Exists.elim (loop_st (L := fun k i (s : Int × Int) => LX6_bestDecision_27 T h b (iZ L) (iZ X) K0 k (iZ s.1) (iZ s.2) i) (K := fun s => K0 (iZ s.1) (iZ s.2)) (I := fun j s => s = cf (bs6 d L) d (9 * X + j) s0) (n := (d 0 1).toNat) (by omega) (fun k i s hi hI => ?_) (fun k s hI => ?_) (s := cf (bs6 d L) d (9 * X) s0) rfl) ?_
  · have g : inG d X i := ⟨by omega, by omega, by omega, by omega⟩
    obtain ⟨b1, b2, b3, b4⟩ : bd3 s := by rw [hI]; exact cf_bd (fun x y s => bd3_6 hO x y s) hs _
    have hdb := dbt_le hO g
    have hf := ftd_in d L X i
    have ho := own_in hO g
    refine ⟨bs6 d L X i s, ?_, ?_⟩
    · have key : ∀ c : Int, c = dbt d X i → (if iZ (ftd d L X i) = iZ (-9) then LX6_bestDecision_27 T h b (iZ L) (iZ X) K0 k (iZ s.1) (iZ s.2) (iZ ((i : Int) + 1)) else if iZ c ≤ iZ s.2 then LX6_bestDecision_27 T h b (iZ L) (iZ X) K0 k (iZ s.1) (iZ s.2) (iZ ((i : Int) + 1)) else LX6_bestDecision_27 T h b (iZ L) (iZ X) K0 k (iZ (100 * X + 10 * i + ftd d L X i)) (iZ c) (iZ ((i : Int) + 1))) = LX6_bestDecision_27 T h b (iZ L) (iZ X) K0 k (iZ (bs6 d L X i s).1) (iZ (bs6 d L X i s).2) (iZ ((i : Int) + 1)) := fun c hc => by
        subst hc
        unfold bs6 u6
        by_cases c0 : ftd d L X i = -9
        · rw [if_pos (by rw [c0]), if_pos c0]
        · rw [if_neg (by rw [iZ_eq (by omega) (by omega) (by omega) (by omega)]; exact c0), if_neg c0]
          by_cases c1 : dbt d X i ≤ s.2
          · rw [if_pos (by rw [iZ_le (by omega) (by omega) (by omega) (by omega)]; exact c1), if_pos c1]
          · rw [if_neg (by rw [iZ_le (by omega) (by omega) (by omega) (by omega)]; exact c1), if_neg c1]
      show LX6_bestDecision_27 T h b (iZ L) (iZ X) K0 (k + 1) (iZ s.1) (iZ s.2) (iZ i) = _
      rw [LX6_bestDecision_27.eq_2, cs_r3 S.cs0, zsn, sh_g1 S.sh0, zsn, if_neg (by rw [iZ_le (by omega) (by omega) (by omega) (by omega)]; omega)]
      simp only [zJn]
      rw [zsn, own_eq S.sh0 hO g, zsn, qm9]
      by_cases c : own d X i = -9
      · rw [if_pos (by rw [c]), zsn, marksIn_t S.sh0 hO g, zsn, zsn, ftd_eq S.sh0 hO g hL, zsn, q100, q10, q1, iZ_mul, iZ_mul, iZ_add, iZ_add, iZ_add]
        exact key _ (by unfold dbt; rw [if_pos c])
      · rw [if_neg (by rw [iZ_eq (by omega) (by omega) (by omega) (by omega)]; exact c), zsn, ftd_eq S.sh0 hO g hL, zsn, q100, q10, q1, q0, iZ_mul, iZ_mul, iZ_add, iZ_add, iZ_add]
        exact key _ (by unfold dbt; rw [if_neg c])
    · show bs6 d L X i s = cf (bs6 d L) d (9 * X + i + 1) s0
      have e1 : (9 * X + i) / 9 = X := by omega
      have e2 : (9 * X + i) % 9 = i := by omega
      show _ = (if (((9 * X + i) / 9 : Nat) : Int) < d 0 0 ∧ (((9 * X + i) % 9 : Nat) : Int) < d 0 1 then bs6 d L ((9 * X + i) / 9 : Nat) ((9 * X + i) % 9 : Nat) (cf (bs6 d L) d (9 * X + i) s0) else cf (bs6 d L) d (9 * X + i) s0)
      rw [e1, e2, if_pos ⟨by omega, by omega⟩, ← hI]
  · show LX6_bestDecision_27 T h b (iZ L) (iZ X) K0 (k + 1) (iZ s.1) (iZ s.2) (iZ ((d 0 1).toNat : Nat)) = _
    rw [LX6_bestDecision_27.eq_2, cs_r3 S.cs0, zsn, sh_g1 S.sh0, zsn, if_pos (by rw [iZ_le (by omega) (by omega) (by omega) (by omega)]; omega)]
  · rintro s ⟨e1, e2⟩
    have e3 : cf (bs6 d L) d (9 * (X + 1)) s0 = s := by
      rw [e2, show 9 * (X + 1) = 9 * X + (d 0 1).toNat + (9 - (d 0 1).toNat) from by omega]
      exact cf_skip _ (fun j j1 j2 => by omega)
    rw [e3]
    exact e1
theorem bd6_out (S : St T hz h b n tx d cnt nxt dd fl ds fs) (hO : OkD d) {L : Nat} (hL : L < 2) {s0 : Int × Int} (hs : bd3 s0) {ρ : Type} (K0 : Int32 → Option ρ) : LX6_bestDecision_12 T h b (iZ L) K0 FUEL (iZ s0.1) (iZ s0.2) (iZ 0) = K0 (iZ (cf (bs6 d L) d 81 s0).1) := by
  obtain ⟨w1, w2, w3, w4⟩ := hO.wh
  refine Exists.elim (loop_st (L := fun k i (s : Int × Int) => LX6_bestDecision_12 T h b (iZ L) K0 k (iZ s.1) (iZ s.2) i) (K := fun s => K0 (iZ s.1)) (I := fun j s => s = cf (bs6 d L) d (9 * j) s0) (n := (d 0 0).toNat) (by omega) (fun k i s hi hI => ?_) (fun k s hI => ?_) (s := s0) rfl) ?_
  · refine ⟨cf (bs6 d L) d (9 * (i + 1)) s0, ?_, rfl⟩
    show LX6_bestDecision_12 T h b (iZ L) K0 (k + 1) (iZ s.1) (iZ s.2) (iZ i) = _
    rw [LX6_bestDecision_12.eq_2, cs_r3 S.cs0, zsn, sh_g0 S.sh0, zsn, if_neg (by rw [iZ_le (by omega) (by omega) (by omega) (by omega)]; omega), hI, q0, bd6_in S hO hL (by omega) hs, q1, iZ_add]
  · show LX6_bestDecision_12 T h b (iZ L) K0 (k + 1) (iZ s.1) (iZ s.2) (iZ ((d 0 0).toNat : Nat)) = _
    rw [LX6_bestDecision_12.eq_2, cs_r3 S.cs0, zsn, sh_g0 S.sh0, zsn, if_pos (by rw [iZ_le (by omega) (by omega) (by omega) (by omega)]; omega)]
  · rintro s ⟨e1, e2⟩
    have e3 : cf (bs6 d L) d 81 s0 = s := by
      rw [e2, show 81 = 9 * (d 0 0).toNat + (81 - 9 * (d 0 0).toNat) from by omega]
      exact cf_skip _ (fun j j1 j2 => by omega)
    rw [e3]
    exact e1
def bd4 (s : Int × Int) : Prop := -9 ≤ s.1 ∧ s.1 ≤ 1000 ∧ 0 ≤ s.2 ∧ s.2 ≤ 162
theorem bd4_7 (hO : OkD d) {L : Nat} {X Y : Int} (g : inG d X Y) {i : Int} (i1 : 0 ≤ i) (i2 : i ≤ 1) {s : Int × Int} (h : bd4 s) : bd4 (ms7 d L X Y i s) := by
  have g9 := hO.g9 g
  have hb := dbt_sub hO g
  have hb1 := dbt_162 hO
  have hb2 := dbt_le hO g
  have hn : bd4 (100 * X + 10 * Y + i, gsum d (dbt d) - dbt d X Y) := ⟨by show -9 ≤ 100 * X + 10 * Y + i; omega, by show 100 * X + 10 * Y + i ≤ 1000; omega, hb, by show gsum d (dbt d) - dbt d X Y ≤ 162; omega⟩
  unfold ms7 u7
  split
  · split
    · exact hn
    · split
      · exact h
      · exact hn
  · exact h
theorem mi7_bd (hO : OkD d) {L : Nat} {X Y : Int} (g : inG d X Y) {s : Int × Int} (h : bd4 s) : ∀ i : Nat, i ≤ 2 → bd4 (mi7 d L X Y i s)
  | 0, _ => h
  | i + 1, hi => bd4_7 hO g (by omega) (by omega) (mi7_bd hO g h i (by omega))
end Bd
