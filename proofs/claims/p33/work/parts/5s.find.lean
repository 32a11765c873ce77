/-! call: find, as a whole -/
section Fj
variable {T : zT} {hz h : zH} {b o : Nat} {n : Int} {tx : Nat → Int} {d : Nat → Nat → Int} {cnt nxt : Int} {dd : Nat → Nat → Nat → Int} {fl : Nat → Int} {ds : Nat → Nat → Nat → Int} {fs v tx7 r D kp kb : Nat → Int} {x : Int64}
/-- the first word for which something holds; -9 where there is none -/
def isFirst (P : Nat → Prop) (m : Nat) (z : Int) : Prop := (∃ i : Nat, z = i ∧ i < m ∧ P i ∧ ∀ j, j < i → ¬ P j) ∨ (z = -9 ∧ ∀ i, i < m → ¬ P i)
theorem isFirst_eq {P : Nat → Prop} {m : Nat} {y z : Int} (a : isFirst P m y) (c : isFirst P m z) : y = z := by
  rcases a with ⟨i, e, i1, i2, i3⟩ | ⟨e, i1⟩
  · rcases c with ⟨j, e', j1, j2, j3⟩ | ⟨e', j1⟩
    · have h1 : ¬ j < i := fun w => i3 j w j2
      have h2 : ¬ i < j := fun w => j3 i w i2
      rw [e, e']
      omega
    · exact absurd i2 (j1 i i1)
  · rcases c with ⟨j, e', j1, j2, j3⟩ | ⟨e', j1⟩
    · exact absurd j2 (i1 j j1)
    · rw [e, e']
theorem find6 {w : Nat → Nat → Int} {wn : Nat → Int} (hC : CsAt h b n) (hV : RdAt T h (b + 336) w) (oW : RdOk w 81) (sW : SO w) (gW : SgIn w) (hB : Num T h (b + 350) 8 wn) {m : Nat} (m2 : m ≤ 8) {z : Int} (hw : ∀ t : Nat, t < m → wn (m - 1 - t) = z / p100 t % 100) {ρ : Type} (K0 : Int32 → Option ρ) (K1 : Unit → Option ρ) (hK : K1 () = K0 (iZ (-9))) : ∃ y, isFirst (fun i => BWd w i z m) (w 0 0).toNat y ∧ LX6_find_39 T h b (iZ m) K0 K1 FUEL (iZ 0) = K0 (iZ y) := by
  have w0 := oW.1
  have w1 := oW.2.1
  refine Or.elim (loop_find (L := LX6_find_39 T h b (iZ m) K0 K1) (K0 := fun i => K0 (iZ i)) (K1 := K1 ()) (P := fun i => BWd w i z m) (n := (w 0 0).toNat) (by omega) (fun k t ht => ?_) (fun k => ?_)) ?_ ?_
  · have a := begins6 hV oW sW gW (i := t) (z := z) (by omega) (by omega) hB m2 hw
    by_cases ce : BWd w t z m
    · refine Or.inl ⟨ce, ?_⟩
      rw [LX6_find_39.eq_2, cs_r8 hC, zsn, rd_g0 hV, zsn, if_neg (by rw [iZ_le (by omega) (by omega) (by omega) (by omega)]; omega), zsn, cs_r10 hC, zsn, a, zsn, ind_t ce, q0, if_neg (by decide)]
    · refine Or.inr ⟨ce, ?_⟩
      rw [LX6_find_39.eq_2, cs_r8 hC, zsn, rd_g0 hV, zsn, if_neg (by rw [iZ_le (by omega) (by omega) (by omega) (by omega)]; omega), zsn, cs_r10 hC, zsn, a, zsn, ind_f ce, q0, if_pos rfl, q1, iZ_add]
  · rw [LX6_find_39.eq_2, cs_r8 hC, zsn, rd_g0 hV, zsn, if_pos (by rw [iZ_le (by omega) (by omega) (by omega) (by omega)]; omega)]
  · rintro ⟨t, t1, t2, t3, e⟩
    exact ⟨t, Or.inl ⟨t, rfl, t1, t2, t3⟩, e⟩
  · rintro ⟨t1, e⟩
    exact ⟨-9, Or.inr ⟨rfl, t1⟩, e.trans hK⟩
end Fj
