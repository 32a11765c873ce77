/-! the law's loop -/
section Ll
variable {T : zT} {hz h : zH} {b o L : Nat} {xv : Nat → Int32}
theorem zsc_at {i : Int} (i1 : 0 ≤ i) (i2 : i < L) (hL : L ≤ 3072) : ∃ z, (-2147483648 ≤ z ∧ z < 2147483648) ∧ zsc xv L (iZ i) = some (iZ z) := by
  obtain ⟨z, z1, z2, e⟩ := iZ_any (xv i.toNat)
  refine ⟨z, ⟨z1, z2⟩, ?_⟩
  unfold zsc
  rw [if_pos ((iZ_in (by omega) (by omega)).mpr ⟨i1, by omega⟩), iZ_clamp (by omega) (by omega), e]
end Ll
