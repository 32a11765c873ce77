/-! the reference reads characters -/
section Rc7
variable {T : zT} {hz h : zH} {b o : Nat} {n : Int} {tx : Nat → Int} {d : Nat → Nat → Int} {cnt nxt : Int} {dd : Nat → Nat → Nat → Int} {fl : Nat → Int} {ds : Nat → Nat → Nat → Int} {fs v tx7 r D kp kb : Nat → Int} {x : Int64}
variable {h' : zH}
theorem tx_at (S : St T hz h b n tx d cnt nxt dd fl ds fs) (hT : ∀ j : Nat, (j : Int) < n → tx7 j = tx j ∧ 0 ≤ tx j ∧ tx j ≤ 255) (n2 : n ≤ 120) {i : Int} (i1 : 0 ≤ i) (i2 : i < n) : zai T h (b + 354 + 1) (iZ i) = some (iZ (tx i.toNat)) ∧ 0 ≤ tx i.toNat ∧ tx i.toNat ≤ 255 := by
  have e := hT i.toNat (by omega)
  refine ⟨?_, e.2⟩
  rw [← e.1]
  exact zai_Arr S.t70 i1 (by omega) (by omega)
end Rc7
