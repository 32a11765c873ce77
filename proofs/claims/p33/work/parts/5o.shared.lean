/-! call: shared -/
noncomputable def ind (P : Prop) : Int := @ite Int P (Classical.propDecidable P) 1 0
theorem ind_t {P : Prop} (h : P) : ind P = 1 := if_pos h
theorem ind_f {P : Prop} (h : ¬ P) : ind P = 0 := if_neg h
theorem ind_in (P : Prop) : ind P = 0 ∨ ind P = 1 := by
  by_cases h : P
  · exact Or.inr (ind_t h)
  · exact Or.inl (ind_f h)
theorem wsg_sm {w : Nat → Nat → Int} (h : SO w) (hW : RdOk w 81) (hG : SgIn w) {i p : Int} (i1 : 0 ≤ i) (i2 : i < w 0 0) : -9 ≤ wsg w i p ∧ wsg w i p ≤ 26 := by
  have hl := wlen_in h hW i1 i2
  unfold wsg
  by_cases c : 0 ≤ p ∧ p < wlen w i
  · rw [if_pos c]
    have := hG.1 (w 3 i.toNat + p).toNat (by omega)
    omega
  · rw [if_neg c]; omega
section Sh
variable {T : zT} {hz h : zH} {u w : Nat → Nat → Int} {Ru Rw : Nat}
end Sh
section Si
variable {T : zT} {hz h : zH} {b o : Nat} {n : Int} {tx : Nat → Int} {d : Nat → Nat → Int} {cnt nxt : Int} {dd : Nat → Nat → Nat → Int} {fl : Nat → Int} {ds : Nat → Nat → Nat → Int} {fs v tx7 r D kp kb : Nat → Int} {x : Int64}
end Si
