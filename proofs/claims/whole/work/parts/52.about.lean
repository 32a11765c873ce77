/-! about: the present sheet's numbers (0 to 7 of the class, 0 to 9 of the reference) -/
def aval (d : Nat → Nat → Int) (z : Int) : Int := if z = 0 then d 0 0 else if z = 1 then d 0 1 else if z = 2 then gsum d (cn d) else if z = 3 then gsum d (dbt d) else if z = 4 then gsum d (dcd d) else if z = 5 then d 0 2 else if z = 6 then d 0 3 else if z = 7 then gsum d (fll d) else gsum d (fun x y => (if z = 7 ∧ cn d x y = 2 then 1 else 0) + zsum (cn d x y).toNat (fun i => cinc d z x y i))
section Ao
variable {T : zT} {h : zH} {b o : Nat} {n : Int} {d : Nat → Nat → Int} {v r : Nat → Int}
theorem about6_eq (B : Bs T h b o n d v r) {z : Int} (z1 : 0 ≤ z) (z2 : z ≤ 7) : FX6_about T b (iZ z) h = some (.ok (iZ (aval d z)), h) := by
  obtain ⟨a1, a2, a3, a4, a5, a6, a7, a8⟩ := B
  unfold FX6_about
  rw [cs_zo a1, zsn, q0, q9, chkArg_t (by omega) (by omega) ⟨z1, by omega⟩, zbx_ok, q1, q2, q3, q4, q5, q6, q7]
  rcases (show z = 0 ∨ z = 1 ∨ z = 2 ∨ z = 3 ∨ z = 4 ∨ z = 5 ∨ z = 6 ∨ z = 7 by omega) with rfl | rfl | rfl | rfl | rfl | rfl | rfl | rfl
  · rw [if_pos rfl, cs_r3 a1, zsn, sh_g0 a2, zsn]; rfl
  · rw [if_neg (by decide), if_pos rfl, cs_r3 a1, zsn, sh_g1 a2, zsn]; rfl
  · rw [if_neg (by decide), if_neg (by decide), if_pos rfl, cs_r3 a1, zsn, countMarks_eq a2 a3, zsn]; rfl
  · rw [if_neg (by decide), if_neg (by decide), if_neg (by decide), if_pos rfl, cs_r3 a1, zsn, countDoubtful_eq a2 a3, zsn]; rfl
  · rw [if_neg (by decide), if_neg (by decide), if_neg (by decide), if_neg (by decide), if_pos rfl, cs_r3 a1, zsn, countDecided_eq a2 a3, zsn]; rfl
  · rw [if_neg (by decide), if_neg (by decide), if_neg (by decide), if_neg (by decide), if_neg (by decide), if_pos rfl, cs_r3 a1, zsn, sh_g2 a2, zsn]; rfl
  · rw [if_neg (by decide), if_neg (by decide), if_neg (by decide), if_neg (by decide), if_neg (by decide), if_neg (by decide), if_pos rfl, cs_r3 a1, zsn, sh_g3 a2, zsn]; rfl
  · rw [if_neg (by decide), if_neg (by decide), if_neg (by decide), if_neg (by decide), if_neg (by decide), if_neg (by decide), if_neg (by decide), if_pos rfl, cs_r3 a1, zsn, countFull_eq a2 a3, zsn]; rfl
theorem about7_eq (B : Bs T h b o n d v r) {z : Int} (z1 : 0 ≤ z) (z2 : z ≤ 9) : ∃ h2, FX7_about T (b + 354) (iZ z) h = some (iZ (aval d z), h2) ∧ Bs T h2 b o n d (upZ v 0 0) r ∧ ∀ q, q ≠ b + 354 → h2 q = h q := by
  obtain ⟨a1, a2, a3, a4, a5, a6, a7, a8⟩ := id B
  obtain ⟨h2, e2, M2, f2⟩ := refused_eq (T := T) a4 (c := 0) (by omega) (by omega)
  have B2 := B.kept M2 (out_kept a7 (f2 _ (by omega))) (fun q q1 _ => f2 q q1)
  refine ⟨h2, ?_, B2, f2⟩
  have hA : Arr T h2 (b + 354 + 3) 739 r := B2.2.2.2.2.1
  have g0 : zai T h2 (b + 354 + 3) (iZ 0) = some (iZ (d 0 0)) := by rw [zai_p hA (by omega) (by omega), ← a6.1.w]; rfl
  have g1 : zai T h2 (b + 354 + 3) (iZ 1) = some (iZ (d 0 1)) := by rw [zai_p hA (by omega) (by omega), ← a6.1.v]; rfl
  have g2 : zai T h2 (b + 354 + 3) (iZ 2) = some (iZ (d 0 2)) := by rw [zai_p hA (by omega) (by omega), ← a6.2]; rfl
  have g3 : zai T h2 (b + 354 + 3) (iZ 3) = some (iZ (d 0 3)) := by rw [zai_p hA (by omega) (by omega), ← a6.1.g]; rfl
  have gc := fun (w : Int) (hw : 0 ≤ w ∧ w ≤ 9) => countOf_eq M2 hA a6 a3 hw
  unfold FX7_about
  rw [mo_zo a4, zsn]
  simp only [zJn]
  rw [iZ_long (by omega) (by omega), l0, l9, in_t (by omega) (by omega) (by omega) (by omega) (by omega) (by omega) ⟨z1, z2⟩, zsn, q0, if_neg (by decide), e2, if_pos rfl, zb2n, if_pos rfl, mo_r5 M2, zsn, q1, q2, q3, q4, q5, q6]
  rcases (show z = 0 ∨ z = 1 ∨ z = 2 ∨ z = 3 ∨ z = 4 ∨ z = 5 ∨ z = 6 ∨ z = 7 ∨ z = 8 ∨ z = 9 by omega) with rfl | rfl | rfl | rfl | rfl | rfl | rfl | rfl | rfl | rfl
  · rw [if_pos rfl, g0, zsn]; rfl
  · rw [if_neg (by decide), if_pos rfl, g1, zsn]; rfl
  · rw [if_neg (by decide), if_neg (by decide), if_pos rfl, zsn, marksOf_eq hA a6.1 a3, zsn]; rfl
  · rw [if_neg (by decide), if_neg (by decide), if_neg (by decide), if_pos rfl, zsn, doubts_eq hA a6 a3, zsn]; rfl
  · rw [if_neg (by decide), if_neg (by decide), if_neg (by decide), if_neg (by decide), if_pos rfl, gc 4 (by omega), zsn, count4 a3]; rfl
  · rw [if_neg (by decide), if_neg (by decide), if_neg (by decide), if_neg (by decide), if_neg (by decide), if_pos rfl, zsn, g2, zsn]; rfl
  · rw [if_neg (by decide), if_neg (by decide), if_neg (by decide), if_neg (by decide), if_neg (by decide), if_neg (by decide), if_pos rfl, zsn, g3, zsn]; rfl
  · rw [if_neg (by decide), if_neg (by decide), if_neg (by decide), if_neg (by decide), if_neg (by decide), if_neg (by decide), if_neg (by decide), gc 7 (by omega), zsn, count7 a3]; rfl
  · rw [if_neg (by decide), if_neg (by decide), if_neg (by decide), if_neg (by decide), if_neg (by decide), if_neg (by decide), if_neg (by decide), gc 8 (by omega), zsn]; rfl
  · rw [if_neg (by decide), if_neg (by decide), if_neg (by decide), if_neg (by decide), if_neg (by decide), if_neg (by decide), if_neg (by decide), gc 9 (by omega), zsn]; rfl
end Ao
