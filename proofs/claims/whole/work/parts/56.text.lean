/-! calls: append, clearText, marks, mark -/
section C1
variable {T : zT} {h : zH} {b o : Nat} {n : Int} {tx : Nat → Int} {d : Nat → Nat → Int} {cnt nxt : Int} {dd : Nat → Nat → Nat → Int} {fl : Nat → Int} {ds : Nat → Nat → Nat → Int} {fs v tx7 r D kp kb : Nat → Int} {x : Int64}
theorem c_append (S : St T h b o n tx d cnt nxt dd fl ds fs v tx7 r D kp kb x) (R : Rel n tx d cnt nxt dd fl ds fs v tx7 r D kp kb) {p : Int} (p1 : -2147483648 ≤ p) (p2 : p < 2147483648) : Rnd T b o (FL_append T b (iZ p) o h) (FX7_append T (b + 354) (iZ p)) := by
  obtain ⟨⟨r1, r2, r3, r4⟩, r5, r6, r7⟩ := id R
  unfold FL_append
  by_cases g : 0 ≤ p ∧ p ≤ 255
  · by_cases gn : n < 120
    · obtain ⟨h1, e1, N1, f1⟩ := put_in (v := p) S.tx0 (by omega) r1 (by omega)
      have S1 := S.text N1 f1
      obtain ⟨h2, e2, M2, f2⟩ := cs_s1 S1.cs0 (n + 1)
      have S2 := S1.cs M2 f2
      refine rnd_ok (val := n + 1) (by omega) ?_ S2 (fun k K => ?_)
      · unfold FX6_append
        rw [cs_zo S.cs0, zsn, q0, q255, chkArg_t (by omega) (by omega) g, zbx_ok, cs_g1 S.cs0, zsn, q120, if_pos (by rw [iZ_lt (by omega) (by omega) (by omega) (by omega)]; omega), cs_r0 S.cs0, zsn, zsn, e1, zsn, cs_g1 S1.cs0, zsn, q1, iZ_add, e2, zsn, cs_g1 M2, zsn]
      · obtain ⟨k1, g1, K1⟩ := K.yes
        obtain ⟨k2, g2, A2, f2'⟩ := zas_Arr (v := p) K1.t70 r1 (by omega) (by omega)
        have K2 := K1.st7 A2 f2'
        obtain ⟨k3, g3, M3, f3⟩ := mo_set K2.mo0 (k := 2) (by omega) (n + 1)
        refine ⟨k3, ?_, _, _, _, _, _, _, _, _, _, _, _, _, _, _, _, K2.mo M3 f3, ⟨⟨by omega, by omega, upZ_self _ _ _, fun j hj => ?_⟩, r5, ?_, r7⟩, ?_⟩
        · have hv2 : upZ v 0 0 2 = n := by rw [upZ_ne _ _ (by decide), r3]
          have hv3 : upZ (upZ v 0 0) 2 (n + 1) 2 = n + 1 := upZ_self _ _ _
          unfold FX7_append
          rw [mo_zo K.mo0, zsn]
          simp only [zJn]
          rw [iZ_long (by omega) (by omega), l0, l255, in_t (by omega) (by omega) (by omega) (by omega) (by omega) (by omega) g, zsn, q0, if_neg (by decide), mo_g2 K.mo0, zsn, r3, q120, if_neg (by rw [iZ_eq (by omega) (by omega) (by omega) (by omega)]; omega), g1, zb2n, if_pos rfl, mo_r1 K1.mo0, zsn, mo_g2 K1.mo0, zsn, hv2, g2, zsn, mo_g2 K2.mo0, zsn, hv2, q1, iZ_add, g3, zsn, mo_g2 M3, zsn, hv3]
        · by_cases e : j = n.toNat
          · rw [e, upZ_self, upZ_self]; exact ⟨rfl, g.1, g.2⟩
          · rw [upZ_ne _ _ e, upZ_ne _ _ e]; exact r4 j (by omega)
        · rw [upZ_ne _ _ (by decide), upZ_ne _ _ (by decide)]; exact r6
        · rw [upZ_ne _ _ (by decide), upZ_self]
    · obtain ⟨k1, g1, K1⟩ := S.no R (c := 2) (by omega) (by omega)
      refine rnd_ex (E := "java/lang/IllegalStateException") (h' := h) (c := 2) (by omega) ?_ ?_ ⟨0, k1, by omega, ?_, K1⟩
      · unfold FX6_append
        rw [cs_zo S.cs0, zsn, q0, q255, chkArg_t (by omega) (by omega) g, zbx_ok, cs_g1 S.cs0, zsn, q120, if_neg (by rw [iZ_lt (by omega) (by omega) (by omega) (by omega)]; omega)]
      · rw [if_neg (by decide), if_pos rfl, q2]
      · unfold FX7_append
        rw [mo_zo S.mo0, zsn]
        simp only [zJn]
        rw [iZ_long (by omega) (by omega), l0, l255, in_t (by omega) (by omega) (by omega) (by omega) (by omega) (by omega) g, zsn, q0, if_neg (by decide), mo_g2 S.mo0, zsn, r3, q120, if_pos (by rw [iZ_eq (by omega) (by omega) (by omega) (by omega)]; omega), q2, g1, zb2n, if_neg (by decide)]
  · obtain ⟨k1, g1, K1⟩ := S.no R (c := 1) (by omega) (by omega)
    refine rnd_ex (E := "java/lang/IllegalArgumentException") (h' := h) (c := 1) (by omega) ?_ ?_ ⟨0, k1, by omega, ?_, K1⟩
    · unfold FX6_append
      rw [cs_zo S.cs0, zsn, q0, q255, chkArg_f p1 p2 (by omega) (by omega) (by omega) (by omega) g, zbx_er]
    · rw [if_pos rfl, q1]
    · unfold FX7_append
      rw [mo_zo S.mo0, zsn]
      simp only [zJn]
      rw [iZ_long (by omega) (by omega), l0, l255, in_f (by omega) (by omega) (by omega) (by omega) (by omega) (by omega) g, zsn, q0, if_pos rfl, q1, g1, zb2n, if_neg (by decide)]
theorem c_clear (S : St T h b o n tx d cnt nxt dd fl ds fs v tx7 r D kp kb x) (R : Rel n tx d cnt nxt dd fl ds fs v tx7 r D kp kb) : Rn2 T b o (FX6_clearText T b h) (FX7_clearText T (b + 354)) := by
  obtain ⟨⟨r1, r2, r3, r4⟩, r5, r6, r7⟩ := id R
  obtain ⟨h1, e1, M1, f1⟩ := cs_s1 S.cs0 0
  have S1 := S.cs M1 f1
  obtain ⟨h2, e2, M2, f2⟩ := mo_set S1.mo0 (k := 0) (by omega) 0
  have S2 := S1.mo M2 f2
  obtain ⟨h3, e3, M3, f3⟩ := mo_set S2.mo0 (k := 2) (by omega) 0
  refine ⟨iZ n, h1, h3, ?_, ?_, _, _, _, _, _, _, _, _, _, _, _, _, _, _, _, _, _, S2.mo M3 f3, ⟨⟨by omega, by omega, upZ_self _ _ _, fun j hj => by omega⟩, r5, ?_, r7⟩, rfl⟩
  · unfold FX6_clearText
    rw [cs_zo S.cs0, zsn, cs_g1 S.cs0, zsn, q0, e1, zsn]
  · have hv2 : upZ v 0 0 2 = n := by rw [upZ_ne _ _ (by decide), r3]
    unfold FX7_clearText
    rw [mo_zo S1.mo0, zsn, q0, e2, zsn, mo_g2 M2, zsn, hv2, e3, zsn]
  · rw [upZ_ne _ _ (by decide), upZ_ne _ _ (by decide)]; exact r6
theorem c_marks (S : St T h b o n tx d cnt nxt dd fl ds fs v tx7 r D kp kb x) (R : Rel n tx d cnt nxt dd fl ds fs v tx7 r D kp kb) {X Y : Int} (x1 : -2147483648 ≤ X) (x2 : X < 2147483648) (y1 : -2147483648 ≤ Y) (y2 : Y < 2147483648) : Rnd T b o (FL_marks T b (iZ X) (iZ Y) o h) (FX7_marks T (b + 354) (iZ X) (iZ Y)) := by
  have hO := R.2.1.1
  have hP := R.2.1.2
  unfold FL_marks
  by_cases g : inG d X Y
  · have hcn := hO.cn g
    refine rnd_ok (val := cn d X Y) (by omega) ?_ S (fun k K => ?_)
    · unfold FX6_marks
      rw [cs_zo S.cs0, zsn, chkCell_t S.cs0 S.sh0 hO g, zbx_ok, cs_r3 S.cs0, zsn, marksIn_t S.sh0 hO g, zsn]
    · obtain ⟨k1, g1, K1⟩ := K.yes
      refine ⟨k1, ?_, fin_ref K1 R⟩
      unfold FX7_marks
      rw [mo_zo K.mo0, zsn]
      simp only [zJn]
      rw [mo_r5 K.mo0, zsn, isCell_t K.pg0 hP.1 hO g, zsn, q0, if_neg (by decide), g1, zb2n, if_pos rfl, mo_r5 K1.mo0, zsn, cellAt_eq, zsn, zai_c K1.pg0 hP.1 hO g, zsn]
  · obtain ⟨k1, g1, K1⟩ := S.no R (c := 1) (by omega) (by omega)
    refine rnd_ex (E := "java/lang/IndexOutOfBoundsException") (h' := h) (c := 1) (by omega) ?_ ?_ ⟨0, k1, by omega, ?_, K1⟩
    · unfold FX6_marks
      rw [cs_zo S.cs0, zsn, chkCell_f S.cs0 S.sh0 hO x1 x2 y1 y2 g, zbx_er]
    · rw [if_pos rfl, q1]
    · unfold FX7_marks
      rw [mo_zo S.mo0, zsn]
      simp only [zJn]
      rw [mo_r5 S.mo0, zsn, isCell_f S.pg0 hP.1 hO x1 x2 y1 y2 g, zsn, q0, if_pos rfl, q1, g1, zb2n, if_neg (by decide)]
theorem c_mark (S : St T h b o n tx d cnt nxt dd fl ds fs v tx7 r D kp kb x) (R : Rel n tx d cnt nxt dd fl ds fs v tx7 r D kp kb) {X Y i z : Int} (x1 : -2147483648 ≤ X) (x2 : X < 2147483648) (y1 : -2147483648 ≤ Y) (y2 : Y < 2147483648) (i1 : -2147483648 ≤ i) (i2 : i < 2147483648) (z1 : -2147483648 ≤ z) (z2 : z < 2147483648) : Rnd T b o (FL_mark T b (iZ X) (iZ Y) (iZ i) (iZ z) o h) (FX7_mark T (b + 354) (iZ X) (iZ Y) (iZ i) (iZ z)) := by
  have hO := R.2.1.1
  have hP := R.2.1.2
  have B := S.bs R
  unfold FL_mark
  by_cases g : inG d X Y ∧ 0 ≤ i ∧ i < cn d X Y
  · obtain ⟨g, j1, j2⟩ := g
    by_cases gz : 0 ≤ z ∧ z ≤ 7
    · have hv := mval_in hO g j1 j2 gz.1 gz.2
      refine rnd_ok (val := mval d X Y i z) (by omega) (mark6_eq B g j1 j2 gz.1 gz.2) S (fun k K => ?_)
      obtain ⟨k2, e2, B2, f2⟩ := mark7_eq (K.bs R) g j1 j2 gz.1 gz.2
      exact ⟨k2, e2, fin_mo K R B2.2.2.2.1 f2 (upZ_self _ _ _) (upZ_ne _ _ (by decide)) (upZ_ne _ _ (by decide))⟩
    · obtain ⟨k1, g1, K1⟩ := S.no R (c := 2) (by omega) (by omega)
      refine rnd_ex (E := "java/lang/IllegalArgumentException") (h' := h) (c := 2) (by omega) ?_ ?_ ⟨0, k1, by omega, ?_, K1⟩
      · unfold FX6_mark
        rw [cs_zo S.cs0, zsn, chkMark_t S.cs0 S.sh0 hO g j1 j2, zbx_ok, q0, q7, chkArg_f z1 z2 (by omega) (by omega) (by omega) (by omega) gz, zbx_er]
      · rw [if_neg (by decide), if_pos rfl, q2]
      · unfold FX7_mark
        rw [mo_zo S.mo0, zsn]
        simp only [zJn]
        rw [mo_r5 S.mo0, zsn, isMark_t S.pg0 hP.1 hO g j1 j2, zsn, q0, if_neg (by decide), iZ_long z1 z2, l0, l7, in_f z1 z2 (by omega) (by omega) (by omega) (by omega) gz, zsn, if_pos rfl, q2, g1, zb2n, if_neg (by decide)]
  · obtain ⟨k1, g1, K1⟩ := S.no R (c := 1) (by omega) (by omega)
    refine rnd_ex (E := "java/lang/IndexOutOfBoundsException") (h' := h) (c := 1) (by omega) ?_ ?_ ⟨0, k1, by omega, ?_, K1⟩
    · unfold FX6_mark
      rw [cs_zo S.cs0, zsn, chkMark_f S.cs0 S.sh0 hO x1 x2 y1 y2 i1 i2 g, zbx_er]
    · rw [if_pos rfl, q1]
    · unfold FX7_mark
      rw [mo_zo S.mo0, zsn]
      simp only [zJn]
      rw [mo_r5 S.mo0, zsn, isMark_f S.pg0 hP.1 hO x1 x2 y1 y2 i1 i2 g, zsn, q0, if_pos rfl, q1, g1, zb2n, if_neg (by decide)]
end C1
