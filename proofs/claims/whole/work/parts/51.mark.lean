/-! the call mark as a whole -/
section Co
variable {T : zT} {h : zH} {b o : Nat} {n : Int} {d : Nat → Nat → Int} {v r : Nat → Int}
theorem mval_in (hO : OkD d) {x y i z : Int} (g : inG d x y) (i1 : 0 ≤ i) (i2 : i < cn d x y) (z1 : 0 ≤ z) (z2 : z ≤ 7) : -9 ≤ mval d x y i z ∧ mval d x y i z ≤ 26 := by
  have hcn := hO.cn g
  have hm := hO.mk g i1 i2
  have ho := ownof_in hO (i := i) g
  have hr := rul_in hO g i1 (by omega) (by omega)
  have hk := hm
  unfold mkOk at hm
  unfold mval
  by_cases c0 : z = 0
  · rw [if_pos c0]; omega
  rw [if_neg c0]
  by_cases c1 : z = 1
  · rw [if_pos c1]; omega
  rw [if_neg c1]
  by_cases c2 : z = 2
  · rw [if_pos c2]; omega
  rw [if_neg c2]
  by_cases c3 : z = 3
  · rw [if_pos c3]; omega
  rw [if_neg c3]
  by_cases c4 : z = 4
  · rw [if_pos c4]; omega
  rw [if_neg c4]
  by_cases c5 : z = 5
  · rw [if_pos c5]; omega
  rw [if_neg c5]
  have := dst_le hk (hO.lw (k := (z - 6).toNat) (by omega))
  omega
theorem call_mark (B : Bs T h b o n d v r) {x y i z : Int} (x1 : -2147483648 ≤ x) (x2 : x < 2147483648) (y1 : -2147483648 ≤ y) (y2 : y < 2147483648) (i1 : -2147483648 ≤ i) (i2 : i < 2147483648) (z1 : -2147483648 ≤ z) (z2 : z < 2147483648) : ∃ c val h1 h2, FL_mark T b (iZ x) (iZ y) (iZ i) (iZ z) o h = some (iZ c, h1) ∧ FX7_mark T (b + 354) (iZ x) (iZ y) (iZ i) (iZ z) h1 = some (iZ val, h2) ∧ (0 ≤ c ∧ c < 10) ∧ (-2147483648 ≤ val ∧ val < 2147483648) ∧ FX7_thrown T (b + 354) h2 = some (iZ c) ∧ (c = 0 → zli T h2 o 0 = some (lZ val)) ∧ Bs T h2 b o n d (upZ v 0 c) r ∧ ∀ q, q ≠ b + 354 → q ≠ o → h2 q = h q := by
  obtain ⟨a1, a2, a3, a4, a5, a6, a7, a8⟩ := id B
  by_cases g : inG d x y ∧ 0 ≤ i ∧ i < cn d x y
  · obtain ⟨g, j1, j2⟩ := g
    by_cases gz : 0 ≤ z ∧ z ≤ 7
    · have hv := mval_in a3 g j1 j2 gz.1 gz.2
      obtain ⟨h1, e1, w1, o1, f1⟩ := out_set a7 (lZ (mval d x y i z))
      have B1 := B.kept (mo_kept a4 (f1 _ (by omega))) o1 (fun q _ q2 => f1 q q2)
      obtain ⟨h2, e2, B2, f2⟩ := mark7_eq B1 g j1 j2 gz.1 gz.2
      refine ⟨0, mval d x y i z, h1, h2, ?_, e2, by omega, by omega, ?_, fun _ => ?_, B2, fun q q1 q2 => (f2 q q1).trans (f1 q q2)⟩
      · unfold FL_mark
        rw [mark6_eq B g j1 j2 gz.1 gz.2, zbh_ok, iZ_long (by omega) (by omega), e1, zsn, q0]
      · rw [thrown_eq B2.2.2.2.1, upZ_self]
      · unfold zli at w1 ⊢
        rw [f2 o (by omega)]
        exact w1
    · obtain ⟨h2, e2, M2, f2⟩ := refused_eq (T := T) a4 (c := 2) (by omega) (by omega)
      have B2 := B.kept M2 (out_kept a7 (f2 _ (by omega))) (fun q q1 _ => f2 q q1)
      have hM : FX7_isMark T (b + 354 + 3) (iZ x) (iZ y) (iZ i) h = some (iZ 1) := isMark_t a5 a6.1 a3 g j1 j2
      refine ⟨2, 0, h, h2, ?_, ?_, by omega, by omega, ?_, fun w => by omega, B2, fun q q1 _ => f2 q q1⟩
      · unfold FL_mark FX6_mark
        rw [cs_zo a1, zsn, chkMark_t a1 a2 a3 g j1 j2, zbx_ok, q0, q7, chkArg_f z1 z2 (by omega) (by omega) (by omega) (by omega) gz, zbx_er, zbh_er, if_neg (by decide), if_pos rfl, q2]
      · unfold FX7_mark
        rw [mo_zo a4, zsn]
        simp only [zJn]
        rw [mo_r5 a4, zsn, hM, zsn, q0, if_neg (by decide), iZ_long z1 z2, l0, l7, in_f z1 z2 (by omega) (by omega) (by omega) (by omega) gz, zsn, if_pos rfl, q2, e2, if_neg (by omega), zb2n, if_neg (by decide)]
      · rw [thrown_eq M2, upZ_self]
  · obtain ⟨h2, e2, M2, f2⟩ := refused_eq (T := T) a4 (c := 1) (by omega) (by omega)
    have B2 := B.kept M2 (out_kept a7 (f2 _ (by omega))) (fun q q1 _ => f2 q q1)
    have hM : FX7_isMark T (b + 354 + 3) (iZ x) (iZ y) (iZ i) h = some (iZ 0) := isMark_f a5 a6.1 a3 x1 x2 y1 y2 i1 i2 g
    refine ⟨1, 0, h, h2, ?_, ?_, by omega, by omega, ?_, fun w => by omega, B2, fun q q1 _ => f2 q q1⟩
    · unfold FL_mark FX6_mark
      rw [cs_zo a1, zsn, chkMark_f a1 a2 a3 x1 x2 y1 y2 i1 i2 g, zbx_er, zbh_er, if_pos rfl, q1]
    · unfold FX7_mark
      rw [mo_zo a4, zsn]
      simp only [zJn]
      rw [mo_r5 a4, zsn, hM, zsn, q0, if_pos rfl, q1, e2, if_neg (by omega), zb2n, if_neg (by decide)]
    · rw [thrown_eq M2, upZ_self]
end Co
