/-! scripts tell what is so -/
section Sc
variable {T : zT} {hz h : zH} {b : Nat} {σ : Sg}
theorem z70 : (70000 : Int64) = lZ 70000 := by decide
theorem z69 : (69999 : Int64) = lZ 69999 := by decide
theorem z60 : (60000 : Int64) = lZ 60000 := by decide
theorem z601 : (60001 : Int64) = lZ 60001 := by decide
theorem z61 : (61000 : Int64) = lZ 61000 := by decide
theorem z611 : (61001 : Int64) = lZ 61001 := by decide
theorem z80 : (80000 : Int64) = lZ 80000 := by decide
theorem z801 : (80001 : Int64) = lZ 80001 := by decide
theorem z1e10 : (10000000000 : Int64) = lZ 10000000000 := by decide
theorem z5e9 : (5000070000 : Int64) = lZ 5000070000 := by decide
theorem sc1 {v : Int} (v1 : 0 ≤ v) (v2 : v ≤ 81000) : (70000 : Int64) + (iZ v).toInt64 = lZ (70000 + v) := by
  rw [iZ_long (by omega) (by omega), z70, lZ_add]
theorem sc2 {v : Int} (v1 : 0 ≤ v) (v2 : v ≤ 81000) : (69999 : Int64) + (iZ v).toInt64 = lZ (70000 + (v - 1)) := by
  rw [iZ_long (by omega) (by omega), z69, lZ_add, show 69999 + v = 70000 + (v - 1) by omega]
theorem sc3 {v : Int} (v1 : 0 ≤ v) (v2 : v ≤ 81000) : ((((70000 : Int64) + (iZ v).toInt64) * (10000000000 : Int64)) + (5000070000 : Int64)) + (iZ v).toInt64 = lZ ((70000 + v) * 10000000000 + 5000070000 + v) := by
  rw [iZ_long (by omega) (by omega), z70, z1e10, z5e9, lZ_add, lZ_mul, lZ_add, lZ_add]
theorem sc6 {v : Int} (v1 : 0 ≤ v) (v2 : v ≤ 81000) : ((((60000 : Int64) + (iZ v).toInt64) * (100000 : Int64)) + (60001 : Int64)) + (iZ v).toInt64 = lZ ((60000 + 1000 * ((0 : Nat) : Int) + v) * 100000 + (60000 + 1000 * ((0 : Nat) : Int) + (v + 1))) := by
  rw [iZ_long (by omega) (by omega), z60, z601, s1e5_, lZ_add, lZ_mul, lZ_add, lZ_add]
  exact congrArg lZ (by omega)
theorem sc7 {v : Int} (v1 : 0 ≤ v) (v2 : v ≤ 81000) : ((((61000 : Int64) + (iZ v).toInt64) * (100000 : Int64)) + (61001 : Int64)) + (iZ v).toInt64 = lZ ((60000 + 1000 * ((1 : Nat) : Int) + v) * 100000 + (60000 + 1000 * ((1 : Nat) : Int) + (v + 1))) := by
  rw [iZ_long (by omega) (by omega), z61, z611, s1e5_, lZ_add, lZ_mul, lZ_add, lZ_add]
  exact congrArg lZ (by omega)
theorem sc8 {m v : Int} (m1 : 0 ≤ m) (m2 : m ≤ 81) (v1 : 0 ≤ v) (v2 : v ≤ 81000) : (((((((80000 : Int64) + ((100 : Int64) * ((iZ m).toInt64))) + (iZ v).toInt64) * (100000 : Int64)) + (80001 : Int64)) + ((100 : Int64) * ((iZ m).toInt64))) + (iZ v).toInt64) = lZ ((80000 + 100 * m + v) * 100000 + (80000 + 100 * m + (v + 1))) := by
  rw [iZ_long (a := v) (by omega) (by omega), iZ_long (a := m) (by omega) (by omega), z80, z801, s1e5_, l100, lZ_mul, lZ_add, lZ_add, lZ_mul, lZ_add, lZ_add, lZ_add]
  exact congrArg lZ (by omega)
theorem r98 : (98 : Int32) = iZ 98 := rfl
set_option maxHeartbeats 4000000 in
set_option maxRecDepth 10000 in
theorem fl_scripts (O : Ob T hz h b σ) : Gd (FL_scripts T b h) 20 (Q1 T hz b σ) := by
  have hO := O.ok
  have hd := dbt_in hO
  have g0 := rd_ok hO 0
  have g1 := rd_ok hO 1
  have p0 := g0.1
  have p1 := g0.2.1
  have p2 := g1.1
  have p3 := g1.2.1
  have e11 : iZ 1 &&& iZ 1 = iZ 1 := by decide
  unfold FL_scripts
  simp only [qm9]
  simp only [q0, q1, q2, q3, q6, q10, r98]
  refine gd_J (fun J => ∀ h, Ob T hz h b σ → Gd (J (iZ (rd σ.1 0 0 0)) (iZ (rd σ.1 1 0 0)) (iZ 1) h) 9 (Q1 T hz b σ)) (fun h O => ?_) (fun J5 hJ5 => ?_)
  · refine gd_J (fun J => ∀ h, Ob T hz h b σ → Gd (J (iZ 1) (iZ 1) h) 7 (Q1 T hz b σ)) (fun h O => ?_) (fun J9 hJ9 => ?_)
    · refine gd_J (fun J => ∀ h, Ob T hz h b σ → Gd (J (iZ 1) (iZ 1) h) 5 (Q1 T hz b σ)) (fun h O => ?_) (fun J13 hJ13 => ?_)
      · refine gd_J (fun J => ∀ h, Ob T hz h b σ → ∀ s, (rd σ.1 0 0 0 ≠ 0 → s = wlen (rd σ.1 0) (rd σ.1 0 0 0 - 1)) → (0 ≤ s ∧ s ≤ 81) → Gd (J (iZ 1) (iZ s) h) 2 (Q1 T hz b σ)) (fun h O s hs hs2 => ?_) (fun J17 hJ17 => ?_)
        · refine gd_J (fun J => ∀ h, Ob T hz h b σ → Gd (J (iZ 1) h) 0 (Q1 T hz b σ)) (fun h O => gd_t (Or.inr rfl) (gd_ret ⟨rfl, O⟩)) (fun J20 hJ20 => ?_)
          refine gd_J (fun _ => True) trivial (fun J22 _ => ?_)
          refine gd_f (by decide) ?_
          refine gd_J (fun J => ∀ h, Ob T hz h b σ → Gd (J h) 0 (Q1 T hz b σ)) (fun h O => hJ20 h O) (fun J24 hJ24 => ?_)
          refine gd_eq (by omega) (by omega) (by omega) (by omega) (fun _ => (hJ24 h O).mono (by omega)) (fun c1 => ?_)
          refine gd_lt (by omega) (by omega) (by omega) (by omega) (fun _ => (hJ24 h O).mono (by omega)) (fun c2 => ?_)
          refine gd_lt (by omega) (by omega) (by omega) (by omega) (fun _ => (hJ24 h O).mono (by omega)) (fun c3 => ?_)
          rw [iZ_sub, sc8 (m := rd σ.1 0 0 0 - 1) (v := s) (by omega) (by omega) (by omega) (by omega)]
          refine gd_cn (k_s8 O (m := rd σ.1 0 0 0 - 1) (v := s) (by omega) (by omega) (by omega) (by omega) (hs c1)) (by omega) (fun h O => ?_)
          exact gd_t rfl ((hJ24 h O).mono (by omega))
        · rw [e11]
          refine gd_eq (by omega) (by omega) (by omega) (by omega) (fun z => (hJ17 h O 0 (fun w => absurd z w) (by omega)).mono (by omega)) (fun z => ?_)
          rw [iZ_sub]
          refine gd_cl (ca6 (k_length O (L := 0) (by omega) (m := rd σ.1 0 0 0 - 1) (by omega) (by omega))) (by omega) (fun h O => ?_)
          have gl := wlen_le (rd_so hO 0) g0 (i := rd σ.1 0 0 0 - 1) (by omega) (by omega)
          exact (hJ17 h O _ (fun _ => rfl) (by omega)).mono (by omega)
      · refine gd_J (fun J => ∀ h, Ob T hz h b σ → Gd (J (iZ 1) h) 5 (Q1 T hz b σ)) (fun h O => hJ13 h O) (fun J34 hJ34 => ?_)
        rw [e11]
        refine gd_lt (by omega) (by omega) (by omega) (by omega) (fun _ => (hJ34 h O).mono (by omega)) (fun c3 => ?_)
        rw [sc7 (v := rd σ.1 1 0 0) (by omega) (by omega)]
        refine gd_cn (k_s6 O (L := 1) (by omega) (v := rd σ.1 1 0 0) (by omega) (by omega) rfl) (by omega) (fun h O => ?_)
        exact gd_t rfl ((hJ34 h O).mono (by omega))
    · refine gd_J (fun J => ∀ h, Ob T hz h b σ → Gd (J (iZ 1) h) 7 (Q1 T hz b σ)) (fun h O => hJ9 h O) (fun J40 hJ40 => ?_)
      refine gd_lt (by omega) (by omega) (by omega) (by omega) (fun _ => (hJ40 h O).mono (by omega)) (fun c3 => ?_)
      rw [sc6 (v := rd σ.1 0 0 0) (by omega) (by omega)]
      refine gd_cn (k_s6 O (L := 0) (by omega) (v := rd σ.1 0 0 0) (by omega) (by omega) rfl) (by omega) (fun h O => ?_)
      exact gd_t rfl ((hJ40 h O).mono (by omega))
  · refine gd_J (fun J => ∀ h, Ob T hz h b σ → Gd (J (iZ (rd σ.1 0 0 0)) (iZ (rd σ.1 1 0 0)) h) 9 (Q1 T hz b σ)) (fun h O => hJ5 h O) (fun J47 hJ47 => ?_)
    refine gd_cl (ab3 O) (by omega) (fun h O => ?_)
    refine gd_cl (ca3 (k_letter O (L := 0) (by omega) (w := 3) (by omega) (by omega))) (by omega) (fun h O => ?_)
    refine gd_cl (ca3 (k_letter O (L := 1) (by omega) (w := 3) (by omega) (by omega))) (by omega) (fun h O => ?_)
    have hJ : ∀ h, Ob T hz h b σ → ∀ m, 9 ≤ m → Gd (J47 (iZ (vle σ.1 0 3)) (iZ (vle σ.1 1 3)) h) m (Q1 T hz b σ) := fun h O m hm => (hJ47 h O).mono hm
    refine gd_lt (by omega) (by omega) (by omega) (by omega) (fun _ => hJ h O _ (by omega)) (fun c3 => ?_)
    refine gd_J (fun _ => True) trivial (fun J61 _ => ?_)
    rw [sc3 hd.1 (by omega), sc2 hd.1 (by omega), sc1 hd.1 (by omega)]
    have k1 := k_s1 O (v := gsum σ.1 (dbt σ.1)) hd.1 (by omega)
    rw [if_neg (by omega)] at k1
    refine gd_cn k1 (by omega) (fun h O => ?_)
    refine gd_t rfl ?_
    refine gd_cn (k_s3 O (v := gsum σ.1 (dbt σ.1)) hd.1 (by omega) rfl) (by omega) (fun h O => ?_)
    refine gd_t rfl ?_
    refine gd_eq (by omega) (by omega) (by omega) (by omega) (fun _ => hJ h O _ (by omega)) (fun c4 => ?_)
    have k2 := k_s1 O (v := gsum σ.1 (dbt σ.1) - 1) (by omega) (by omega)
    rw [if_pos (by omega)] at k2
    refine gd_cn k2 (by omega) (fun h O => ?_)
    exact gd_t rfl (hJ h O _ (by omega))
end Sc
