/-! the reference's countOf: marks decided (4), full cells (7), marks of a letter (8, 9) -/
def cinc (d : Nat → Nat → Int) (z x y i : Int) : Int := if z = 4 then (if d 8 (pl x y i) = -9 then 0 else 1) else if z ≤ 7 then 0 else if ownof d x y i = z - 8 then 1 else 0
section Ab
variable {T : zT} {hz h : zH} {m : Nat} {r v : Nat → Int} {d : Nat → Nat → Int}
theorem count4 (hO : OkD d) : gsum d (fun x y => (if (4 : Int) = 7 ∧ cn d x y = 2 then 1 else 0) + zsum (cn d x y).toNat (fun i => cinc d 4 x y i)) = gsum d (dcd d) := by
  refine gsum_congr hO (fun x y g => ?_)
  have hcn := hO.cn g
  unfold dcd
  rw [if_neg (by omega), Int.zero_add, zsum_cut (m := (cn d x y).toNat) 2 (by omega) (fun i h1 h2 => if_pos (dec_ge (by omega)))]
  refine zsum_congr _ (fun i hi => ?_)
  unfold cinc
  rw [if_pos rfl, dec_lt (by omega)]
theorem count7 (hO : OkD d) : gsum d (fun x y => (if (7 : Int) = 7 ∧ cn d x y = 2 then 1 else 0) + zsum (cn d x y).toNat (fun i => cinc d 7 x y i)) = gsum d (fll d) := by
  refine gsum_congr hO (fun x y g => ?_)
  have hcn := hO.cn g
  have e : zsum (cn d x y).toNat (fun i => cinc d 7 x y i) = 0 := zsum_zero _ (fun i hi => by
    unfold cinc
    rw [if_neg (by omega), if_pos (by omega)])
  rw [e]
  unfold fll
  by_cases c : cn d x y = 2
  · rw [if_pos ⟨rfl, c⟩, if_neg (by omega)]; rfl
  · rw [if_neg (fun w => c w.2), if_pos (by omega)]; rfl
end Ab
