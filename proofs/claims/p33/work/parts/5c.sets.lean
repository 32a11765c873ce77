/-! calls: decide, setLetter, setMargin, setGap -/
section C6
variable {T : zT} {hz h : zH} {b o : Nat} {n : Int} {tx : Nat → Int} {d : Nat → Nat → Int} {cnt nxt : Int} {dd : Nat → Nat → Nat → Int} {fl : Nat → Int} {ds : Nat → Nat → Nat → Int} {fs v tx7 r D kp kb : Nat → Int} {x : Int64}
theorem dbt_in {d : Nat → Nat → Int} (hO : OkD d) : 0 ≤ gsum d (dbt d) ∧ gsum d (dbt d) ≤ 81000 := gsum_in hO (f := dbt d) (m := 2) (by omega) (by omega) (fun x y gg => by
  have := hO.cn gg
  unfold dbt
  split <;> omega)
end C6
