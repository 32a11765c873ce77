/-! call: greatestMargin -/
def mdb (d : Nat → Nat → Int) (m : Int) : Int := gsum (dput d 0 2 m) (dbt (dput d 0 2 m))
def gmv (d : Nat → Nat → Int) : Nat → Int
  | 0 => -9
  | m + 1 => if mdb d m = 0 then m else gmv d m
def MarEq (d dt : Nat → Nat → Int) : Prop := ∀ p : Int, SameD (dput d 0 2 p) (dput dt 0 2 p)
theorem marEq0 {d d1 : Nat → Nat → Int} (hs : SameD d d1) : MarEq d d1 := by
  intro p
  refine ⟨fun j hj => ?_, fun k k1 k8 j hj => ?_⟩
  · show upZ (d1 0) 2 p j = upZ (d 0) 2 p j
    unfold upZ
    by_cases c : j = 2
    · rw [if_pos c, if_pos c]
    · rw [if_neg c, if_neg c]; exact hs.1 j hj
  · rw [dput_ne (by omega), dput_ne (by omega)]
    exact hs.2 k k1 k8 j hj
theorem marEq_st {d dt : Nat → Nat → Int} (hs : MarEq d dt) (p : Int) : MarEq d (dput dt 0 2 p) := by
  intro p'
  have e : dput (dput dt 0 2 p) 0 2 p' = dput dt 0 2 p' := by
    funext k
    by_cases c : k = 0
    · subst c
      show upZ (upZ (dt 0) 2 p) 2 p' = upZ (dt 0) 2 p'
      exact upZ_up _ _ _ _
    · rw [dput_ne c, dput_ne c, dput_ne c]
  rw [e]
  exact hs p'
theorem gmv_in {d : Nat → Nat → Int} : ∀ m : Nat, -9 ≤ gmv d m ∧ gmv d m < m
  | 0 => ⟨by show (-9 : Int) ≤ -9; omega, by show (-9 : Int) < 0; omega⟩
  | m + 1 => by
    have := gmv_in (d := d) m
    unfold gmv
    by_cases c : mdb d m = 0
    · rw [if_pos c]; omega
    · rw [if_neg c]; omega
section Gm
variable {T : zT} {hz h : zH} {b o : Nat} {n : Int} {tx : Nat → Int} {d : Nat → Nat → Int} {cnt nxt : Int} {dd : Nat → Nat → Nat → Int} {fl : Nat → Int} {ds : Nat → Nat → Nat → Int} {fs v tx7 r D kp kb : Nat → Int} {x : Int64}
theorem gm6 (hO : OkD d) {ρ : Type} (K0 : Int32 → zH → Option ρ) (K1 : zH → Option ρ) : ∀ (m k : Nat) (h : zH) (dt : Nat → Nat → Int), m ≤ 10 → m < k → MarEq d dt → ShAt T h (b + 21) dt → St T hz h b n tx d cnt nxt dd fl ds fs → ∃ h', LX6_greatestMargin_14 T b K0 K1 k (iZ ((m : Int) - 1)) h = (if gmv d m = -9 then K1 h' else K0 (iZ (gmv d m)) h') ∧ St T hz h' b n tx d cnt nxt dd fl ds fs := by
  intro m
  induction m with
  | zero =>
    intro k h dt h1 h2 hd M S
    obtain ⟨k, rfl⟩ : ∃ q, k = q + 1 := ⟨k - 1, by omega⟩
    refine ⟨h, ?_, S⟩
    rw [LX6_greatestMargin_14.eq_2, q0, if_pos (by rw [iZ_lt (by omega) (by omega) (by omega) (by omega)]; omega), if_pos (show gmv d 0 = -9 from rfl)]
  | succ m ih =>
    intro k h dt h1 h2 hd M S
    obtain ⟨k, rfl⟩ : ∃ q, k = q + 1 := ⟨k - 1, by omega⟩
    have ho : OkD (dput d 0 2 m) := OkD_margin hO (by omega) (by omega)
    obtain ⟨h2', e2, M2, f2⟩ := sh_set0 M (k := 2) (by omega) (m : Int)
    have S2 := S.trial M2 f2
    have e3 : FX3_countDoubtful T (b + 21) h2' = some (iZ (mdb d m)) := by
      rw [countDoubtful_eq M2 (OkD_same (hd m) ho), same_dbt (hd m) ho]
      rfl
    have hb := dbt_162 ho
    have hb1 : 0 ≤ mdb d m := hb.1
    have hb2 : mdb d m ≤ 162 := hb.2
    have gi := gmv_in (d := d) m
    rw [LX6_greatestMargin_14.eq_2, q0, if_neg (by rw [iZ_lt (by omega) (by omega) (by omega) (by omega)]; omega), show ((m + 1 : Nat) : Int) - 1 = m from by omega, cs_r4 S.cs0, zsn, e2, zsn, cs_r4 S2.cs0, zsn, e3, zsn]
    by_cases c : mdb d m = 0
    · refine ⟨h2', ?_, S2⟩
      have eg : gmv d (m + 1) = m := by unfold gmv; rw [if_pos c]
      rw [if_pos (by rw [c]), eg, if_neg (by omega)]
    · obtain ⟨h3, g3, S3⟩ := ih k h2' _ (by omega) (by omega) (marEq_st hd m) M2 S2
      refine ⟨h3, ?_, S3⟩
      have eg : gmv d (m + 1) = gmv d m := by
        show (if mdb d m = 0 then (m : Int) else gmv d m) = gmv d m
        rw [if_neg c]
      rw [if_neg (by rw [iZ_eq (by omega) (by omega) (by omega) (by omega)]; exact c), qm1, iZ_add, show (m : Int) + -1 = (m : Int) - 1 from by omega, g3, eg]
end Gm
