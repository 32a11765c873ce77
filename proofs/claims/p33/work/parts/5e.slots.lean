/-! calls: save, restore -/
section C8
variable {T : zT} {hz h : zH} {b o : Nat} {n : Int} {tx : Nat → Int} {d : Nat → Nat → Int} {cnt nxt : Int} {dd : Nat → Nat → Nat → Int} {fl : Nat → Int} {ds : Nat → Nat → Nat → Int} {fs v tx7 r D kp kb : Nat → Int} {x : Int64}
theorem cnt_in {d : Nat → Nat → Int} (hO : OkD d) : 0 ≤ gsum d (cn d) ∧ gsum d (cn d) ≤ 81000 := gsum_in hO (f := cn d) (m := 2) (by omega) (by omega) (fun x y gg => hO.cn gg)
theorem gsum_same {d d' : Nat → Nat → Int} (hs : SameD d d') (hO : OkD d) : gsum d' (cn d') = gsum d (cn d) := by
  obtain ⟨w1, w2, w3, w4⟩ := hO.wh
  unfold gsum
  rw [hs.1 0 (by omega), hs.1 1 (by omega)]
  exact zsum_congr _ (fun i hi => zsum_congr _ (fun j hj => same_cn hs hO ⟨by omega, by omega, by omega, by omega⟩))
end C8
