/-! the call mark (code 7 of the law) -/
theorem l7 : (7 : Int64) = lZ 7 := rfl
def mval (d : Nat → Nat → Int) (x y i z : Int) : Int := if z = 0 then d 5 (pl x y i) else if z = 1 then d 6 (pl x y i) else if z = 2 then d 7 (pl x y i) else if z = 3 then d 8 (pl x y i) else if z = 4 then ownof d x y i else if z = 5 then rul d x y i else dst d (pl x y i) (z - 6).toNat
section Cm
variable {T : zT} {hz h : zH} {b o : Nat} {n : Int} {d : Nat → Nat → Int} {v r : Nat → Int}
end Cm
