/-! call: bestPen, the loops -/
section Bp
variable {T : zT} {hz h : zH} {b o : Nat} {n : Int} {tx : Nat → Int} {d : Nat → Nat → Int} {cnt nxt : Int} {dd : Nat → Nat → Nat → Int} {fl : Nat → Int} {ds : Nat → Nat → Nat → Int} {fs v tx7 r D kp kb : Nat → Int} {x : Int64}
theorem pf_bd {st : Int → Int → Int × Int → Int × Int} (hst : ∀ (s : Int × Int) (c code : Int), bd2 s → 0 ≤ c → c ≤ 162 → 0 ≤ code → code ≤ 1000 → bd2 (st c code s)) (hO : OkD d) {L : Nat} (hL : L < 2) {u : Nat} (hu : u < 4) {s : Int × Int} (h : bd2 s) : ∀ v : Nat, v ≤ 9 → bd2 (pf st d L u v s)
  | 0, _ => h
  | v + 1, hv => by
    have g := pdb_in hO hL (u := u) (v := v) (by omega) (by omega)
    exact hst _ _ _ (pf_bd hst hO hL hu h v (by omega)) g.2.1 g.2.2 (by omega) (by omega)
theorem po_bd {st : Int → Int → Int × Int → Int × Int} (hst : ∀ (s : Int × Int) (c code : Int), bd2 s → 0 ≤ c → c ≤ 162 → 0 ≤ code → code ≤ 1000 → bd2 (st c code s)) (hO : OkD d) {L : Nat} (hL : L < 2) {s : Int × Int} (h : bd2 s) : ∀ u : Nat, u ≤ 4 → bd2 (po st d L u s)
  | 0, _ => h
  | u + 1, hu => pf_bd hst hO hL (by omega) (po_bd hst hO hL h u (by omega)) 9 (by omega)
theorem bp6_in (S : St T hz h b n tx d cnt nxt dd fl ds fs) (hO : OkD d) {L : Nat} (hL : L < 2) {u : Nat} (hu : u < 4) {dt : Nat → Nat → Int} (hd : PenEq d dt L) (M : ShAt T h (b + 21) dt) {s0 : Int × Int} (hs : bd2 s0) {ρ : Type} (K0 : Int32 → Int32 → zH → Option ρ) : ∃ h' dt', LX6_bestPen_34 T b (iZ L) (iZ u) K0 FUEL (iZ s0.1) (iZ s0.2) (iZ 0) h = K0 (iZ (pf st6 d L u 9 s0).1) (iZ (pf st6 d L u 9 s0).2) h' ∧ ShAt T h' (b + 21) dt' ∧ PenEq d dt' L ∧ St T hz h' b n tx d cnt nxt dd fl ds fs := by
  refine Exists.elim (loop_st (L := fun k i (s : (Int × Int) × zH) => LX6_bestPen_34 T b (iZ L) (iZ u) K0 k (iZ s.1.1) (iZ s.1.2) i s.2) (K := fun s => K0 (iZ s.1.1) (iZ s.1.2) s.2) (I := fun j s => s.1 = pf st6 d L u j s0 ∧ ∃ dt', ShAt T s.2 (b + 21) dt' ∧ PenEq d dt' L ∧ St T hz s.2 b n tx d cnt nxt dd fl ds fs) (n := 9) (by omega) (fun k i s hi hI => ?_) (fun k s hI => ?_) (s := (s0, h)) ⟨rfl, dt, M, hd, S⟩) ?_
  · obtain ⟨e, dt1, M1, P1, S1⟩ := hI
    obtain ⟨b1, b2, b3, b4⟩ : bd2 s.1 := by rw [e]; exact pf_bd (fun _ _ _ a1 a2 a3 a4 a5 => bd2_6 a1 a2 a3 a4 a5) hO hL hu hs i (by omega)
    obtain ⟨o1, o2, o3⟩ := pdb_in hO hL (u := u) (v := i) (by omega) (by omega)
    obtain ⟨h2, e2, M2, f2⟩ := putPen_eq (k := (L : Int)) (u := u) (v := i) M1 (by omega) (by omega)
    have S2 := S1.trial M2 f2
    have hsd : SameD (dlet d L u i (d 3 L)) (dput (dput dt1 1 (L : Int).toNat u) 2 (L : Int).toNat i) := P1 u i
    have e3 : FX3_countDoubtful T (b + 21) h2 = some (iZ (pdb d L u i)) := by
      rw [countDoubtful_eq M2 (OkD_same hsd o1), same_dbt hsd o1]
      rfl
    refine ⟨(st6 (pdb d L u i) (10 * u + i) s.1, h2), ?_, ?_, _, M2, penEq_st P1 u i, S2⟩
    · show LX6_bestPen_34 T b (iZ L) (iZ u) K0 (k + 1) (iZ s.1.1) (iZ s.1.2) (iZ i) s.2 = _
      rw [LX6_bestPen_34.eq_2, q8, if_neg (by rw [iZ_lt (by omega) (by omega) (by omega) (by omega)]; omega)]
      simp only [zJn]
      rw [cs_r4 S1.cs0, zsn, e2, zsn, cs_r4 S2.cs0, zsn, e3, zsn, q10, q1, iZ_mul, iZ_add, iZ_add]
      unfold st6
      by_cases c : s.1.2 ≤ pdb d L u i
      · rw [if_pos (by rw [iZ_le (by omega) (by omega) (by omega) (by omega)]; exact c), if_pos c]
      · rw [if_neg (by rw [iZ_le (by omega) (by omega) (by omega) (by omega)]; exact c), if_neg c]
    · show st6 (pdb d L u i) (10 * u + i) s.1 = st6 (pdb d L u i) (10 * u + i) (pf st6 d L u i s0)
      rw [e]
  · show LX6_bestPen_34 T b (iZ L) (iZ u) K0 (k + 1) (iZ s.1.1) (iZ s.1.2) (iZ (9 : Nat)) s.2 = _
    rw [LX6_bestPen_34.eq_2, q8, if_pos (by rw [iZ_lt (by omega) (by omega) (by omega) (by omega)]; omega)]
  · rintro s ⟨e1, e2, dt', M', P', S'⟩
    refine ⟨s.2, dt', ?_, M', P', S'⟩
    rw [← e2]
    exact e1
theorem bp6_out (S : St T hz h b n tx d cnt nxt dd fl ds fs) (hO : OkD d) {L : Nat} (hL : L < 2) {dt : Nat → Nat → Int} (hd : PenEq d dt L) (M : ShAt T h (b + 21) dt) {s0 : Int × Int} (hs : bd2 s0) {ρ : Type} (K0 : Int32 → zH → Option ρ) : ∃ h', LX6_bestPen_25 T b (iZ L) K0 FUEL (iZ s0.1) (iZ s0.2) (iZ 0) h = K0 (iZ (po st6 d L 4 s0).1) h' ∧ St T hz h' b n tx d cnt nxt dd fl ds fs := by
  refine Exists.elim (loop_st (L := fun k i (s : (Int × Int) × zH) => LX6_bestPen_25 T b (iZ L) K0 k (iZ s.1.1) (iZ s.1.2) i s.2) (K := fun s => K0 (iZ s.1.1) s.2) (I := fun j s => s.1 = po st6 d L j s0 ∧ ∃ dt', ShAt T s.2 (b + 21) dt' ∧ PenEq d dt' L ∧ St T hz s.2 b n tx d cnt nxt dd fl ds fs) (n := 4) (by omega) (fun k i s hi hI => ?_) (fun k s hI => ?_) (s := (s0, h)) ⟨rfl, dt, M, hd, S⟩) ?_
  · obtain ⟨e, dt1, M1, P1, S1⟩ := hI
    have hb : bd2 s.1 := by rw [e]; exact po_bd (fun _ _ _ a1 a2 a3 a4 a5 => bd2_6 a1 a2 a3 a4 a5) hO hL hs i (by omega)
    obtain ⟨h2, dt2, e2, M2, P2, S2⟩ := bp6_in S1 hO hL hi P1 M1 hb (fun (x31 : Int32) (x32 : Int32) (h33 : zH) => LX6_bestPen_25 T b (iZ L) K0 k x31 x32 (iZ i + 1) h33)
    refine ⟨(pf st6 d L i 9 s.1, h2), ?_, ?_, _, M2, P2, S2⟩
    · show LX6_bestPen_25 T b (iZ L) K0 (k + 1) (iZ s.1.1) (iZ s.1.2) (iZ i) s.2 = _
      rw [LX6_bestPen_25.eq_2, q3, if_neg (by rw [iZ_lt (by omega) (by omega) (by omega) (by omega)]; omega), q0, e2, q1, iZ_add]
    · show pf st6 d L i 9 s.1 = pf st6 d L i 9 (po st6 d L i s0)
      rw [e]
  · show LX6_bestPen_25 T b (iZ L) K0 (k + 1) (iZ s.1.1) (iZ s.1.2) (iZ (4 : Nat)) s.2 = _
    rw [LX6_bestPen_25.eq_2, q3, if_pos (by rw [iZ_lt (by omega) (by omega) (by omega) (by omega)]; omega)]
  · rintro s ⟨e1, e2, dt', M', P', S'⟩
    refine ⟨s.2, ?_, S'⟩
    rw [← e2]
    exact e1
theorem q163 : (163 : Int32) = iZ 163 := rfl
end Bp
