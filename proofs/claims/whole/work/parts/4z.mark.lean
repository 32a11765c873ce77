/-! the call mark (code 7 of the law) -/
theorem l7 : (7 : Int64) = lZ 7 := rfl
def mval (d : Nat → Nat → Int) (x y i z : Int) : Int := if z = 0 then d 5 (pl x y i) else if z = 1 then d 6 (pl x y i) else if z = 2 then d 7 (pl x y i) else if z = 3 then d 8 (pl x y i) else if z = 4 then ownof d x y i else if z = 5 then rul d x y i else dst d (pl x y i) (z - 6).toNat
section Cm
variable {T : zT} {h : zH} {b o : Nat} {n : Int} {d : Nat → Nat → Int} {v r : Nat → Int}
theorem mark6_eq (B : Bs T h b o n d v r) {x y i z : Int} (g : inG d x y) (i1 : 0 ≤ i) (i2 : i < cn d x y) (z1 : 0 ≤ z) (z2 : z ≤ 7) : FX6_mark T b (iZ x) (iZ y) (iZ i) (iZ z) h = some (.ok (iZ (mval d x y i z)), h) := by
  obtain ⟨a1, a2, a3, a4, a5, a6, a7, a8⟩ := B
  have g9 := a3.g9 g
  have hcn := a3.cn g
  have hp := pl_in g9 i1 (by omega)
  have t5 : FX1_at T (b + 4 + 9) (iZ (2 * (9 * x + y) + i)) h = some (iZ (d 5 (pl x y i))) := at_in (sh_n5 a2) (by omega) (by omega) (by omega)
  have t6 : FX1_at T (b + 4 + 11) (iZ (2 * (9 * x + y) + i)) h = some (iZ (d 6 (pl x y i))) := at_in (sh_n6 a2) (by omega) (by omega) (by omega)
  have t7 : FX1_at T (b + 4 + 13) (iZ (2 * (9 * x + y) + i)) h = some (iZ (d 7 (pl x y i))) := at_in (sh_n7 a2) (by omega) (by omega) (by omega)
  have t8 : FX1_at T (b + 4 + 15) (iZ (2 * (9 * x + y) + i)) h = some (iZ (d 8 (pl x y i))) := at_in (sh_n8 a2) (by omega) (by omega) (by omega)
  have k0 := dist_eq a2 a3 hp.1 hp.2 (a3.mk g i1 i2) (k := 0) (by omega) (by omega)
  have k1 := dist_eq a2 a3 hp.1 hp.2 (a3.mk g i1 i2) (k := 1) (by omega) (by omega)
  unfold FX6_mark
  rw [cs_zo a1, zsn, chkMark_t a1 a2 a3 g i1 i2, zbx_ok, q0, q7, chkArg_t (by omega) (by omega) ⟨z1, z2⟩, zbx_ok, placeOf_eq, zsn, q1, q2, q3, q4, q5, q6]
  rcases (show z = 0 ∨ z = 1 ∨ z = 2 ∨ z = 3 ∨ z = 4 ∨ z = 5 ∨ z = 6 ∨ z = 7 by omega) with rfl | rfl | rfl | rfl | rfl | rfl | rfl | rfl
  · rw [if_pos rfl, cs_r3 a1, zsn, sh_r5 a2, zsn, t5, zsn]; rfl
  · rw [if_neg (by decide), if_pos rfl, cs_r3 a1, zsn, sh_r6 a2, zsn, t6, zsn]; rfl
  · rw [if_neg (by decide), if_neg (by decide), if_pos rfl, cs_r3 a1, zsn, sh_r7 a2, zsn, t7, zsn]; rfl
  · rw [if_neg (by decide), if_neg (by decide), if_neg (by decide), if_pos rfl, cs_r3 a1, zsn, sh_r8 a2, zsn, t8, zsn]; rfl
  · rw [if_neg (by decide), if_neg (by decide), if_neg (by decide), if_neg (by decide), if_pos rfl, cs_r3 a1, zsn, own_of a2 a3 g i1 (by omega), zsn]; rfl
  · rw [if_neg (by decide), if_neg (by decide), if_neg (by decide), if_neg (by decide), if_neg (by decide), if_pos rfl, cs_r3 a1, zsn, rule_eq a2 a3 g i1 (by omega), zsn]; rfl
  · rw [if_neg (by decide), if_neg (by decide), if_neg (by decide), if_neg (by decide), if_neg (by decide), if_neg (by decide), if_pos rfl, cs_r3 a1, zsn, k0, zsn]; rfl
  · rw [if_neg (by decide), if_neg (by decide), if_neg (by decide), if_neg (by decide), if_neg (by decide), if_neg (by decide), if_neg (by decide), cs_r3 a1, zsn, k1, zsn]; rfl
end Cm
