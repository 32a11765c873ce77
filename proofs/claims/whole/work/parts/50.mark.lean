/-! the reference's mark; the call of both -/
section Cn
variable {T : zT} {h : zH} {b o : Nat} {n : Int} {d : Nat → Nat → Int} {v r : Nat → Int}
theorem mark7_eq (B : Bs T h b o n d v r) {x y i z : Int} (g : inG d x y) (i1 : 0 ≤ i) (i2 : i < cn d x y) (z1 : 0 ≤ z) (z2 : z ≤ 7) : ∃ h2, FX7_mark T (b + 354) (iZ x) (iZ y) (iZ i) (iZ z) h = some (iZ (mval d x y i z), h2) ∧ Bs T h2 b o n d (upZ v 0 0) r ∧ ∀ q, q ≠ b + 354 → h2 q = h q := by
  obtain ⟨a1, a2, a3, a4, a5, a6, a7, a8⟩ := id B
  have hcn := a3.cn g
  obtain ⟨h2, e2, M2, f2⟩ := refused_eq (T := T) a4 (c := 0) (by omega) (by omega)
  have B2 := B.kept M2 (out_kept a7 (f2 _ (by omega))) (fun q q1 _ => f2 q q1)
  refine ⟨h2, ?_, B2, f2⟩
  have hA : Arr T h2 (b + 354 + 3) 739 r := B2.2.2.2.2.1
  obtain ⟨m5, m6, m7, m8⟩ := zai_m hA a6.1 a3 g i1 i2
  have k0 := dist7_eq hA a6.1 a3 g i1 i2 (k := 0) (by omega)
  have k1 := dist7_eq hA a6.1 a3 g i1 i2 (k := 1) (by omega)
  rw [show ((0 : Nat) : Int) = 0 from rfl] at k0
  rw [show ((1 : Nat) : Int) = 1 from rfl] at k1
  obtain ⟨r1, r2, r3, r4, r5⟩ := rlv_50 a3 g i1 (by omega) (by omega)
  have em : zai T h2 (b + 354 + 3) (iZ 2) = some (iZ (d 0 2)) := by rw [zai_p hA (by omega) (by omega), ← a6.2]; rfl
  have er := rule7_eq hA a6.1 a3 g i1 i2
  have eb := belongs_eq hA a6 a3 g i1 i2
  have hM : FX7_isMark T (b + 354 + 3) (iZ x) (iZ y) (iZ i) h = some (iZ 1) := isMark_t a5 a6.1 a3 g i1 i2
  unfold FX7_mark
  rw [mo_zo a4, zsn]
  simp only [zJn]
  rw [mo_r5 a4, zsn, hM, zsn, q0, if_neg (by decide), iZ_long (by omega) (by omega), l0, l7, in_t (by omega) (by omega) (by omega) (by omega) (by omega) (by omega) ⟨z1, z2⟩, zsn, if_neg (by decide), e2, if_pos rfl, zb2n, if_pos rfl, cellAt_eq, zsn, mo_r5 M2, zsn, q2, q4, q5, q6, q7, q10]
  rcases (show z = 0 ∨ z = 1 ∨ z = 2 ∨ z = 3 ∨ z = 4 ∨ z = 5 ∨ z = 6 ∨ z = 7 by omega) with rfl | rfl | rfl | rfl | rfl | rfl | rfl | rfl
  · rw [if_neg (by decide), if_neg (by decide), if_neg (by decide), if_neg (by decide), zsn, markAt_eq, zsn, iZ_add, Int.add_zero, m5, zsn]; rfl
  · rw [if_neg (by decide), if_neg (by decide), if_neg (by decide), if_neg (by decide), zsn, markAt_eq, zsn, iZ_add, m6, zsn]; rfl
  · rw [if_neg (by decide), if_neg (by decide), if_neg (by decide), if_neg (by decide), zsn, markAt_eq, zsn, iZ_add, m7, zsn]; rfl
  · rw [if_neg (by decide), if_neg (by decide), if_neg (by decide), if_neg (by decide), zsn, markAt_eq, zsn, iZ_add, m8, zsn]; rfl
  · rw [if_pos rfl, eb, zsn]; rfl
  · rw [if_neg (by decide), if_pos rfl, zsn, zsn, em, zsn, er, zsn, zdivI_iZ (by omega) (by omega) (by omega) (by omega), zsn, r4]; rfl
  · rw [if_neg (by decide), if_neg (by decide), if_pos rfl, zsn, markAt_eq, zsn, iZ_sub, show (6 : Int) - 6 = 0 from rfl, k0, zsn]; rfl
  · rw [if_neg (by decide), if_neg (by decide), if_neg (by decide), if_pos rfl, zsn, markAt_eq, zsn, iZ_sub, show (7 : Int) - 6 = 1 from rfl, k1, zsn]; rfl
end Cn
