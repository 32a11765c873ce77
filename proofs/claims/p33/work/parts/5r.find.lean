/-! call: find -/
def BWd (w : Nat → Nat → Int) (i : Int) (z : Int) (m : Nat) : Prop := ∀ t : Nat, t < m → wsg w i t = z / p100 (m - 1 - t) % 100
section Fi
variable {T : zT} {hz h : zH}
theorem begins6 {w : Nat → Nat → Int} {R B : Nat} {wn : Nat → Int} (hV : RdAt T h R w) (oW : RdOk w 81) (sW : SO w) (gW : SgIn w) {i z : Int} (i1 : 0 ≤ i) (i2 : i < w 0 0) (hB : Num T h B 8 wn) {m : Nat} (m2 : m ≤ 8) (hw : ∀ t : Nat, t < m → wn (m - 1 - t) = z / p100 t % 100) : FX2_beginsWith T R (iZ i) B (iZ m) h = some (iZ (ind (BWd w i z m))) := by
  unfold FX2_beginsWith
  rw [rd_zo hV, zsn, q0]
  refine Or.elim (loop_find (L := LX2_beginsWith_3 T h R (iZ i) B (iZ m) (fun (u9 : Unit) => some (iZ 0)) (fun (u9 : Unit) => some 1)) (K0 := fun _ => some (iZ 0)) (K1 := some 1) (P := fun t => wsg w i t ≠ z / p100 (m - 1 - t) % 100) (n := m) (by omega) (fun k t ht => ?_) (fun k => ?_)) ?_ ?_
  · have a1 := wsg_sm (p := (t : Int)) sW oW gW i1 i2
    have a2 := Int.emod_nonneg (z / p100 (m - 1 - t)) (show (100 : Int) ≠ 0 by omega)
    have a3 := Int.emod_lt_of_pos (z / p100 (m - 1 - t)) (show (0 : Int) < 100 by omega)
    have e := hw (m - 1 - t) (by omega)
    rw [show m - 1 - (m - 1 - t) = t from by omega] at e
    have ha : FX1_at T B (iZ (t : Int)) h = some (iZ (z / p100 (m - 1 - t) % 100)) := by
      rw [← e]
      exact at_in hB (by omega) (by omega) (by omega)
    by_cases ce : wsg w i t = z / p100 (m - 1 - t) % 100
    · refine Or.inr ⟨fun q => q ce, ?_⟩
      rw [LX2_beginsWith_3.eq_2, if_neg (by rw [iZ_le (by omega) (by omega) (by omega) (by omega)]; omega), signAt_eq hV oW sW i1 i2 (by omega) (by omega), zsn, ha, zsn, if_pos (by rw [ce]), q1, iZ_add]
    · refine Or.inl ⟨ce, ?_⟩
      rw [LX2_beginsWith_3.eq_2, if_neg (by rw [iZ_le (by omega) (by omega) (by omega) (by omega)]; omega), signAt_eq hV oW sW i1 i2 (by omega) (by omega), zsn, ha, zsn, if_neg (by rw [iZ_eq (by omega) (by omega) (by omega) (by omega)]; exact ce)]
  · rw [LX2_beginsWith_3.eq_2, if_pos (by exact Int32.le_refl _)]
  · rintro ⟨t, t1, t2, t3, e⟩
    rw [ind_f (fun q => t2 (q t t1))]
    exact e
  · rintro ⟨t1, e⟩
    rw [ind_t (show BWd w i z m from fun t ht => Classical.not_not.mp (t1 t ht))]
    exact e
end Fi
