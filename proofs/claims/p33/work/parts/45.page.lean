/-! the reference's page: 739 numbers; what it has to do with a Sheet's data -/
def cel (x y : Int) : Int := 10 + 9 * (9 * y + x)
def ownof (d : Nat → Nat → Int) (x y i : Int) : Int := if i = 0 ∨ own d x y = -9 then own d x y else 1 - own d x y
/-- whichever of the marks: the lead of letter 0 -/
def sgn (d : Nat → Nat → Int) (x y i : Int) : Int := if cn d x y = 1 then dst d (pl x y i) 0 - dst d (pl x y i) 1 else dst d (pl x y i) 0 + dst d (pl x y (1 - i)) 1 - dst d (pl x y i) 1 - dst d (pl x y (1 - i)) 0
def rlv (d : Nat → Nat → Int) (x y i : Int) : Int := 10 * rul d x y i + (if ownof d x y i = -9 then 0 else ownof d x y i)
section Pg
variable {T : zT} {hz h : zH} {a : Nat} {r : Nat → Int} {d : Nat → Nat → Int}
theorem l0 : (0 : Int64) = lZ 0 := rfl
theorem l1 : (1 : Int64) = lZ 1 := rfl
theorem l2 : (2 : Int64) = lZ 2 := rfl
theorem l3 : (3 : Int64) = lZ 3 := rfl
theorem l4 : (4 : Int64) = lZ 4 := rfl
theorem l8 : (8 : Int64) = lZ 8 := rfl
theorem l9 : (9 : Int64) = lZ 9 := rfl
theorem l25 : (25 : Int64) = lZ 25 := rfl
theorem l26 : (26 : Int64) = lZ 26 := rfl
theorem l255 : (255 : Int64) = lZ 255 := rfl
end Pg
