/-! calls: decide, setLetter, setMargin, setGap -/
section C6
variable {T : zT} {h : zH} {b o : Nat} {n : Int} {tx : Nat → Int} {d : Nat → Nat → Int} {cnt nxt : Int} {dd : Nat → Nat → Nat → Int} {fl : Nat → Int} {ds : Nat → Nat → Nat → Int} {fs v tx7 r D kp kb : Nat → Int} {x : Int64}
theorem dbt_in {d : Nat → Nat → Int} (hO : OkD d) : 0 ≤ gsum d (dbt d) ∧ gsum d (dbt d) ≤ 81000 := gsum_in hO (f := dbt d) (m := 2) (by omega) (by omega) (fun x y gg => by
  have := hO.cn gg
  unfold dbt
  split <;> omega)
theorem c_decide (S : St T h b o n tx d cnt nxt dd fl ds fs v tx7 r D kp kb x) (R : Rel n tx d cnt nxt dd fl ds fs v tx7 r D kp kb) {X Y i k : Int} (x1 : -2147483648 ≤ X) (x2 : X < 2147483648) (y1 : -2147483648 ≤ Y) (y2 : Y < 2147483648) (i1 : -2147483648 ≤ i) (i2 : i < 2147483648) (k1 : -2147483648 ≤ k) (k2 : k < 2147483648) : Rnd T b o (FL_decide T b (iZ X) (iZ Y) (iZ i) (iZ k) o h) (FX7_decide T (b + 354) (iZ X) (iZ Y) (iZ i) (iZ k)) := by
  have hO := R.2.1.1
  have hP := R.2.1.2
  unfold FL_decide
  by_cases g : inG d X Y ∧ 0 ≤ i ∧ i < cn d X Y
  case neg =>
    obtain ⟨jj, g1, J1⟩ := S.no R (c := 1) (by omega) (by omega)
    refine rnd_ex (E := "java/lang/IndexOutOfBoundsException") (h' := h) (c := 1) (by omega) ?_ ?_ ⟨0, jj, by omega, ?_, J1⟩
    · unfold FX6_decide
      rw [cs_zo S.cs0, zsn, chkMark_f S.cs0 S.sh0 hO x1 x2 y1 y2 i1 i2 g, zbx_er]
    · rw [if_pos rfl, q1]
    · unfold FX7_decide
      rw [mo_zo S.mo0, zsn]
      simp only [zJn]
      rw [mo_r5 S.mo0, zsn, isMark_f S.pg0 hP.1 hO x1 x2 y1 y2 i1 i2 g, zsn, q0, if_pos rfl, q1, g1, zb2n, if_neg (by decide)]
  obtain ⟨g, j1, j2⟩ := g
  have hcn := hO.cn g
  have g9 := hO.g9 g
  have hce := cel_in g9
  by_cases gk : 0 ≤ k ∧ k ≤ 2
  case neg =>
    obtain ⟨jj, g1, J1⟩ := S.no R (c := 2) (by omega) (by omega)
    refine rnd_ex (E := "java/lang/IllegalArgumentException") (h' := h) (c := 2) (by omega) ?_ ?_ ⟨0, jj, by omega, ?_, J1⟩
    · unfold FX6_decide
      rw [cs_zo S.cs0, zsn, chkMark_t S.cs0 S.sh0 hO g j1 j2, zbx_ok, q0, q2, chkArg_f k1 k2 (by omega) (by omega) (by omega) (by omega) gk, zbx_er]
    · rw [if_neg (by decide), if_pos rfl, q2]
    · unfold FX7_decide
      rw [mo_zo S.mo0, zsn]
      simp only [zJn]
      rw [mo_r5 S.mo0, zsn, isMark_t S.pg0 hP.1 hO g j1 j2, zsn, q0, if_neg (by decide), iZ_long k1 k2, l0, l2, in_f k1 k2 (by omega) (by omega) (by omega) (by omega) gk, zsn, if_pos rfl, q2, g1, zb2n, if_neg (by decide)]
  by_cases gd : (0 ≤ k ∧ k < 2) ∧ dec d X Y (1 - i) = k
  case pos =>
    obtain ⟨jj, g1, J1⟩ := S.no R (c := 3) (by omega) (by omega)
    refine rnd_ex (E := "java/lang/IllegalStateException") (h' := h) (c := 3) (by omega) ?_ ?_ ⟨0, jj, by omega, ?_, J1⟩
    · unfold FX6_decide
      rw [cs_zo S.cs0, zsn, chkMark_t S.cs0 S.sh0 hO g j1 j2, zbx_ok, q0, q2, chkArg_t (by omega) (by omega) gk, zbx_ok, cs_r3 S.cs0, zsn, other_eq S.sh0 hO g j1 (by omega) k1 k2, zsn, if_pos gd, if_neg (by decide)]
    · rw [if_neg (by decide), if_neg (by decide), if_pos rfl, q3]
    · unfold FX7_decide
      rw [mo_zo S.mo0, zsn]
      simp only [zJn]
      rw [mo_r5 S.mo0, zsn, isMark_t S.pg0 hP.1 hO g j1 j2, zsn, q0, if_neg (by decide), iZ_long k1 k2, l0, l2, in_t (by omega) (by omega) (by omega) (by omega) (by omega) (by omega) gk, zsn, if_neg (by decide), zsn, cellAt_eq, zsn, canDecide_eq S.pg0 hP.1 hO g j1 j2 gk.1 gk.2, zsn, if_pos gd, if_pos rfl, q3, g1, zb2n, if_neg (by decide)]
  have hOn : OkD (ddec d X Y i (if 0 ≤ k ∧ k < 2 then k else -9)) := OkD_dec hO g j1 j2 (by
    by_cases c : 0 ≤ k ∧ k < 2
    · rw [if_pos c]; exact Or.inr ⟨by omega, fun z => gd ⟨c, z⟩⟩
    · rw [if_neg c]; exact Or.inl rfl)
  have hPn : Pg (ddec d X Y i (if 0 ≤ k ∧ k < 2 then k else -9)) (upZ r (cel X Y + 1 + 4 * i + 3).toNat (if 0 ≤ k ∧ k < 2 then k else -9)) := Pg_dec hP hO g j1 j2
  have hdb := dbt_in hOn
  obtain ⟨h1, d1, e1, hs, S1⟩ := S.rem R
  obtain ⟨h2, e2, N2, f2⟩ := putDecision_eq S1.sh0 hO g j1 j2 k1 k2
  have S2 := S1.pres N2 f2
  refine rnd_ok (val := gsum (ddec d X Y i (if 0 ≤ k ∧ k < 2 then k else -9)) (dbt (ddec d X Y i (if 0 ≤ k ∧ k < 2 then k else -9)))) (by omega) ?_ S2 (fun q K => ?_)
  · have e3 : FX3_countDoubtful T (b + 4) h2 = some (iZ (gsum (ddec d X Y i (if 0 ≤ k ∧ k < 2 then k else -9)) (dbt (ddec d X Y i (if 0 ≤ k ∧ k < 2 then k else -9))))) := countDoubtful_eq S2.sh0 hOn
    unfold FX6_decide
    rw [cs_zo S.cs0, zsn, chkMark_t S.cs0 S.sh0 hO g j1 j2, zbx_ok, q0, q2, chkArg_t (by omega) (by omega) gk, zbx_ok, cs_r3 S.cs0, zsn, other_eq S.sh0 hO g j1 (by omega) k1 k2, zsn, if_neg gd, if_pos rfl, cs_r6 S.cs0, zsn, zsn, e1, zsn, cs_r3 S1.cs0, zsn, e2, zsn, cs_r3 S2.cs0, zsn, e3, zsn]
  ·
    obtain ⟨k1', g1, K1⟩ := K.yes
    have hv9 : upZ v 0 0 9 = v 9 := upZ_ne _ _ (by decide)
    obtain ⟨c1, c2, -⟩ := R.2.2.1.2.1
    have e9 := R.2.2.1.1
    obtain ⟨k2', v2, D2, g2, M2, v9, vr, A2, q1', q2', f2'⟩ := note_eq K1.mo0 K1.pg0 K1.di0 (by omega) (by omega)
    have K2 := K1.note M2 A2 f2'
    rw [hv9] at v9 q1' q2'
    obtain ⟨k3', g3, A3, f3⟩ := decideOn_eq K2.pg0 hce.1 hce.2 j1 (by omega) gk.1 gk.2
    have K3 := K2.page A3 f3
    refine ⟨k3', ?_, K3.fin (R.act hs v9 ((vr 2 (by decide)).trans (upZ_ne _ _ (by decide))) q1' q2' hOn hPn) ((vr 0 (by decide)).trans (upZ_self _ _ _))⟩
    unfold FX7_decide
    rw [mo_zo K.mo0, zsn]
    simp only [zJn]
    rw [mo_r5 K.mo0, zsn, isMark_t K.pg0 hP.1 hO g j1 j2, zsn, q0, if_neg (by decide), iZ_long k1 k2, l0, l2, in_t (by omega) (by omega) (by omega) (by omega) (by omega) (by omega) gk, zsn, if_neg (by decide), zsn, cellAt_eq, zsn, canDecide_eq K.pg0 hP.1 hO g j1 j2 gk.1 gk.2, zsn, if_neg gd, if_neg (by decide), g1, zb2n, if_pos rfl, g2, zsn, mo_r5 K2.mo0, zsn, cellAt_eq, zsn, g3, zsn, mo_r5 K3.mo0, zsn, doubts_eq K3.pg0 hPn hOn, zsn]
theorem isPen_t {u s w : Int} (g : (0 ≤ u ∧ u ≤ 3) ∧ (0 ≤ s ∧ s ≤ 8) ∧ (0 ≤ w ∧ w ≤ 1)) : FX7_isPen T (iZ u) (iZ s) (iZ w) h = some (iZ 1) := by
  obtain ⟨g1, g2, g3⟩ := g
  unfold FX7_isPen
  simp only [zJn]
  rw [iZ_long (by omega) (by omega), l0, l3, in_t (by omega) (by omega) (by omega) (by omega) (by omega) (by omega) g1, zsn, q0, if_neg (by decide), iZ_long (by omega) (by omega), l8, in_t (by omega) (by omega) (by omega) (by omega) (by omega) (by omega) g2, zsn, if_neg (by decide), iZ_long (by omega) (by omega), l1, in_t (by omega) (by omega) (by omega) (by omega) (by omega) (by omega) g3, zsn, if_neg (by decide), q1, if_pos (Or.inr trivial)]
theorem isPen_f {u s w : Int} (u1 : -2147483648 ≤ u) (u2 : u < 2147483648) (s1 : -2147483648 ≤ s) (s2 : s < 2147483648) (w1 : -2147483648 ≤ w) (w2 : w < 2147483648) (g : ¬ ((0 ≤ u ∧ u ≤ 3) ∧ (0 ≤ s ∧ s ≤ 8) ∧ (0 ≤ w ∧ w ≤ 1))) : FX7_isPen T (iZ u) (iZ s) (iZ w) h = some (iZ 0) := by
  unfold FX7_isPen
  simp only [zJn]
  by_cases g1 : 0 ≤ u ∧ u ≤ 3
  · by_cases g2 : 0 ≤ s ∧ s ≤ 8
    · have g3 : ¬ (0 ≤ w ∧ w ≤ 1) := fun z => g ⟨g1, g2, z⟩
      rw [iZ_long (by omega) (by omega), l0, l3, in_t (by omega) (by omega) (by omega) (by omega) (by omega) (by omega) g1, zsn, q0, if_neg (by decide), iZ_long (by omega) (by omega), l8, in_t (by omega) (by omega) (by omega) (by omega) (by omega) (by omega) g2, zsn, if_neg (by decide), iZ_long w1 w2, l1, in_f w1 w2 (by omega) (by omega) (by omega) (by omega) g3, zsn, if_pos rfl, if_pos (Or.inl trivial)]
    · rw [iZ_long (by omega) (by omega), l0, l3, in_t (by omega) (by omega) (by omega) (by omega) (by omega) (by omega) g1, zsn, q0, if_neg (by decide), iZ_long s1 s2, l8, in_f s1 s2 (by omega) (by omega) (by omega) (by omega) g2, zsn, if_pos rfl, if_pos (Or.inl trivial)]
  · rw [iZ_long u1 u2, l0, l3, in_f u1 u2 (by omega) (by omega) (by omega) (by omega) g1, zsn, q0, if_pos rfl, if_pos (Or.inl trivial)]
theorem c_setLetter (S : St T h b o n tx d cnt nxt dd fl ds fs v tx7 r D kp kb x) (R : Rel n tx d cnt nxt dd fl ds fs v tx7 r D kp kb) {k u s w : Int} (k1 : -2147483648 ≤ k) (k2 : k < 2147483648) (u1 : -2147483648 ≤ u) (u2 : u < 2147483648) (s1 : -2147483648 ≤ s) (s2 : s < 2147483648) (w1 : -2147483648 ≤ w) (w2 : w < 2147483648) : Rnd T b o (FL_setLetter T b (iZ k) (iZ u) (iZ s) (iZ w) o h) (FX7_setLetter T (b + 354) (iZ k) (iZ u) (iZ s) (iZ w)) := by
  have hO := R.2.1.1
  have hP := R.2.1.2
  unfold FL_setLetter
  by_cases g : 0 ≤ k ∧ k < 2
  case neg =>
    obtain ⟨j1, g1, J1⟩ := S.no R (c := 1) (by omega) (by omega)
    refine rnd_ex (E := "java/lang/IndexOutOfBoundsException") (h' := h) (c := 1) (by omega) ?_ ?_ ⟨0, j1, by omega, ?_, J1⟩
    · unfold FX6_setLetter
      rw [cs_zo S.cs0, zsn, chkLet_f k1 k2 g, zbx_er]
    · rw [if_pos rfl, q1]
    · unfold FX7_setLetter
      rw [mo_zo S.mo0, zsn]
      simp only [zJn]
      rw [isLet7_f k1 k2 g, zsn, q0, if_pos rfl, q1, g1, zb2n, if_neg (by decide)]
  obtain ⟨L, rfl⟩ : ∃ L : Nat, k = L := ⟨k.toNat, by omega⟩
  have hL : L < 2 := by omega
  by_cases gu : 0 ≤ u ∧ u ≤ 3
  case neg =>
    obtain ⟨j1, g1, J1⟩ := S.no R (c := 2) (by omega) (by omega)
    refine rnd_ex (E := "java/lang/IllegalArgumentException") (h' := h) (c := 2) (by omega) ?_ ?_ ⟨0, j1, by omega, ?_, J1⟩
    · unfold FX6_setLetter
      rw [cs_zo S.cs0, zsn, chkLet_t (by omega) (by omega), zbx_ok, q0, q3, chkArg_f u1 u2 (by omega) (by omega) (by omega) (by omega) gu, zbx_er]
    · rw [if_neg (by decide), if_pos rfl, q2]
    · unfold FX7_setLetter
      rw [mo_zo S.mo0, zsn]
      simp only [zJn]
      rw [isLet7_t (by omega) (by omega), zsn, q0, if_neg (by decide), isPen_f u1 u2 s1 s2 w1 w2 (fun z => gu z.1), zsn, if_pos rfl, q2, g1, zb2n, if_neg (by decide)]
  by_cases gs : 0 ≤ s ∧ s ≤ 8
  case neg =>
    obtain ⟨j1, g1, J1⟩ := S.no R (c := 2) (by omega) (by omega)
    refine rnd_ex (E := "java/lang/IllegalArgumentException") (h' := h) (c := 2) (by omega) ?_ ?_ ⟨0, j1, by omega, ?_, J1⟩
    · unfold FX6_setLetter
      rw [cs_zo S.cs0, zsn, chkLet_t (by omega) (by omega), zbx_ok, q0, q3, chkArg_t (by omega) (by omega) gu, zbx_ok, q8, chkArg_f s1 s2 (by omega) (by omega) (by omega) (by omega) gs, zbx_er]
    · rw [if_neg (by decide), if_pos rfl, q2]
    · unfold FX7_setLetter
      rw [mo_zo S.mo0, zsn]
      simp only [zJn]
      rw [isLet7_t (by omega) (by omega), zsn, q0, if_neg (by decide), isPen_f u1 u2 s1 s2 w1 w2 (fun z => gs z.2.1), zsn, if_pos rfl, q2, g1, zb2n, if_neg (by decide)]
  by_cases gw : 0 ≤ w ∧ w ≤ 1
  case neg =>
    obtain ⟨j1, g1, J1⟩ := S.no R (c := 2) (by omega) (by omega)
    refine rnd_ex (E := "java/lang/IllegalArgumentException") (h' := h) (c := 2) (by omega) ?_ ?_ ⟨0, j1, by omega, ?_, J1⟩
    · unfold FX6_setLetter
      rw [cs_zo S.cs0, zsn, chkLet_t (by omega) (by omega), zbx_ok, q0, q3, chkArg_t (by omega) (by omega) gu, zbx_ok, q8, chkArg_t (by omega) (by omega) gs, zbx_ok, q1, chkArg_f w1 w2 (by omega) (by omega) (by omega) (by omega) gw, zbx_er]
    · rw [if_neg (by decide), if_pos rfl, q2]
    · unfold FX7_setLetter
      rw [mo_zo S.mo0, zsn]
      simp only [zJn]
      rw [isLet7_t (by omega) (by omega), zsn, q0, if_neg (by decide), isPen_f u1 u2 s1 s2 w1 w2 (fun z => gw z.2.2), zsn, if_pos rfl, q2, g1, zb2n, if_neg (by decide)]
  have hOn : OkD (dlet d L u s w) := OkD_let hO ⟨gu.1, gu.2, gs.1, gs.2, gw.1, gw.2⟩
  have hPn : Pg (dlet d L u s w) (plet r L u s w) := Pg_let hP hO hL
  have hdb := dbt_in hOn
  obtain ⟨h1, d1, e1, hs, S1⟩ := S.rem R
  obtain ⟨h2, e2, N2, f2⟩ := putLetter_eq (u := u) (v := s) (w := w) S1.sh0 g.1 g.2
  have S2 := S1.pres N2 f2
  refine rnd_ok (val := gsum (dlet d L u s w) (dbt (dlet d L u s w))) (by omega) ?_ S2 (fun q K => ?_)
  · have e3 : FX3_countDoubtful T (b + 4) h2 = some (iZ (gsum (dlet d L u s w) (dbt (dlet d L u s w)))) := countDoubtful_eq S2.sh0 hOn
    unfold FX6_setLetter
    rw [cs_zo S.cs0, zsn, chkLet_t (by omega) (by omega), zbx_ok, q0, q3, chkArg_t (by omega) (by omega) gu, zbx_ok, q8, chkArg_t (by omega) (by omega) gs, zbx_ok, q1, chkArg_t (by omega) (by omega) gw, zbx_ok, cs_r6 S.cs0, zsn, cs_r3 S.cs0, zsn, e1, zsn, cs_r3 S1.cs0, zsn, e2, zsn, cs_r3 S2.cs0, zsn, e3, zsn]
  ·
    obtain ⟨k1', g1, K1⟩ := K.yes
    have hv9 : upZ v 0 0 9 = v 9 := upZ_ne _ _ (by decide)
    obtain ⟨c1, c2, -⟩ := R.2.2.1.2.1
    have e9 := R.2.2.1.1
    obtain ⟨k2', v2, D2, g2, M2, v9, vr, A2, q1', q2', f2'⟩ := note_eq K1.mo0 K1.pg0 K1.di0 (by omega) (by omega)
    have K2 := K1.note M2 A2 f2'
    rw [hv9] at v9 q1' q2'
    obtain ⟨k3', g3, A3, f3⟩ := penOn_eq (u := u) (v := s) (w := w) K2.pg0 hL
    have K3 := K2.page A3 f3
    refine ⟨k3', ?_, K3.fin (R.act hs v9 ((vr 2 (by decide)).trans (upZ_ne _ _ (by decide))) q1' q2' hOn hPn) ((vr 0 (by decide)).trans (upZ_self _ _ _))⟩
    unfold FX7_setLetter
    rw [mo_zo K.mo0, zsn]
    simp only [zJn]
    rw [isLet7_t (by omega) (by omega), zsn, q0, if_neg (by decide), isPen_t ⟨gu, gs, gw⟩, zsn, if_neg (by decide), g1, zb2n, if_pos rfl, g2, zsn, mo_r5 K2.mo0, zsn, g3, zsn, mo_r5 K3.mo0, zsn, doubts_eq K3.pg0 hPn hOn, zsn]
theorem c_setMargin (S : St T h b o n tx d cnt nxt dd fl ds fs v tx7 r D kp kb x) (R : Rel n tx d cnt nxt dd fl ds fs v tx7 r D kp kb) {p : Int} (p1 : -2147483648 ≤ p) (p2 : p < 2147483648) : Rnd T b o (FL_setMargin T b (iZ p) o h) (FX7_setMargin T (b + 354) (iZ p)) := by
  have hO := R.2.1.1
  have hP := R.2.1.2
  have ho := hO.1
  unfold FL_setMargin
  by_cases gp : 0 ≤ p ∧ p ≤ 9
  case neg =>
    obtain ⟨j1, g1, J1⟩ := S.no R (c := 1) (by omega) (by omega)
    refine rnd_ex (E := "java/lang/IllegalArgumentException") (h' := h) (c := 1) (by omega) ?_ ?_ ⟨0, j1, by omega, ?_, J1⟩
    · unfold FX6_setMargin
      rw [cs_zo S.cs0, zsn, q0, q9, chkArg_f p1 p2 (by omega) (by omega) (by omega) (by omega) gp, zbx_er]
    · rw [if_pos rfl, q1]
    · unfold FX7_setMargin
      rw [mo_zo S.mo0, zsn]
      simp only [zJn]
      rw [iZ_long p1 p2, l0, l9, in_f p1 p2 (by omega) (by omega) (by omega) (by omega) gp, zsn, q0, if_pos rfl, q1, g1, zb2n, if_neg (by decide)]
  have hOn : OkD (dput d 0 2 p) := OkD_margin hO gp.1 gp.2
  have hPn : Pg (dput d 0 2 p) (upZ r 2 p) := Pg_margin hP hO
  obtain ⟨h1, d1, e1, hs, S1⟩ := S.rem R
  obtain ⟨h2, e2, N2, f2⟩ := sh_set0 S1.sh0 (k := 2) (by omega) p
  have S2 := S1.pres N2 f2
  refine rnd_ok (val := d 0 2) (by omega) ?_ S2 (fun q K => ?_)
  · unfold FX6_setMargin
    rw [cs_zo S.cs0, zsn, q0, q9, chkArg_t (by omega) (by omega) gp, zbx_ok, cs_r6 S.cs0, zsn, cs_r3 S.cs0, zsn, e1, zsn, cs_r3 S1.cs0, zsn, sh_g2 S1.sh0, zsn, zsn, e2, zsn]
  ·
    obtain ⟨k1', g1, K1⟩ := K.yes
    have hv9 : upZ v 0 0 9 = v 9 := upZ_ne _ _ (by decide)
    obtain ⟨c1, c2, -⟩ := R.2.2.1.2.1
    have e9 := R.2.2.1.1
    obtain ⟨k2', v2, D2, g2, M2, v9, vr, A2, q1', q2', f2'⟩ := note_eq K1.mo0 K1.pg0 K1.di0 (by omega) (by omega)
    have K2 := K1.note M2 A2 f2'
    rw [hv9] at v9 q1' q2'
    obtain ⟨k3', g3, A3, f3⟩ := zas_p (i := 2) (v := p) K2.pg0 (by omega) (by omega)
    have K3 := K2.page A3 f3
    refine ⟨k3', ?_, K3.fin (R.act hs v9 ((vr 2 (by decide)).trans (upZ_ne _ _ (by decide))) q1' q2' hOn hPn) ((vr 0 (by decide)).trans (upZ_self _ _ _))⟩
    have z3 : zai T k2' (b + 354 + 3) (iZ 2) = some (iZ (d 0 2)) := by rw [zai_p K2.pg0 (by omega) (by omega), ← hP.2]; rfl
    unfold FX7_setMargin
    rw [mo_zo K.mo0, zsn]
    simp only [zJn]
    rw [iZ_long p1 p2, l0, l9, in_t (by omega) (by omega) (by omega) (by omega) (by omega) (by omega) gp, zsn, q0, if_neg (by decide), g1, zb2n, if_pos rfl, g2, zsn, mo_r5 K2.mo0, zsn, q2, z3, zsn, zsn, g3, zsn]
theorem c_setGap (S : St T h b o n tx d cnt nxt dd fl ds fs v tx7 r D kp kb x) (R : Rel n tx d cnt nxt dd fl ds fs v tx7 r D kp kb) {p : Int} (p1 : -2147483648 ≤ p) (p2 : p < 2147483648) : Rnd T b o (FL_setGap T b (iZ p) o h) (FX7_setGap T (b + 354) (iZ p)) := by
  have hO := R.2.1.1
  have hP := R.2.1.2
  have ho := hO.1
  unfold FL_setGap
  by_cases gp : 1 ≤ p ∧ p ≤ 3
  case neg =>
    obtain ⟨j1, g1, J1⟩ := S.no R (c := 1) (by omega) (by omega)
    refine rnd_ex (E := "java/lang/IllegalArgumentException") (h' := h) (c := 1) (by omega) ?_ ?_ ⟨0, j1, by omega, ?_, J1⟩
    · unfold FX6_setGap
      rw [cs_zo S.cs0, zsn, q1, q3, chkArg_f p1 p2 (by omega) (by omega) (by omega) (by omega) gp, zbx_er]
    · rw [if_pos rfl, q1]
    · unfold FX7_setGap
      rw [mo_zo S.mo0, zsn]
      simp only [zJn]
      rw [iZ_long p1 p2, l1, l3, in_f p1 p2 (by omega) (by omega) (by omega) (by omega) gp, zsn, q0, if_pos rfl, q1, g1, zb2n, if_neg (by decide)]
  have hOn : OkD (dput d 0 3 p) := OkD_gap hO gp.1 gp.2
  have hPn : Pg (dput d 0 3 p) (upZ r 3 p) := Pg_gap hP hO
  obtain ⟨h1, d1, e1, hs, S1⟩ := S.rem R
  obtain ⟨h2, e2, N2, f2⟩ := sh_set0 S1.sh0 (k := 3) (by omega) p
  have S2 := S1.pres N2 f2
  refine rnd_ok (val := d 0 3) (by omega) ?_ S2 (fun q K => ?_)
  · unfold FX6_setGap
    rw [cs_zo S.cs0, zsn, q1, q3, chkArg_t (by omega) (by omega) gp, zbx_ok, cs_r6 S.cs0, zsn, cs_r3 S.cs0, zsn, e1, zsn, cs_r3 S1.cs0, zsn, sh_g3 S1.sh0, zsn, zsn, e2, zsn]
  ·
    obtain ⟨k1', g1, K1⟩ := K.yes
    have hv9 : upZ v 0 0 9 = v 9 := upZ_ne _ _ (by decide)
    obtain ⟨c1, c2, -⟩ := R.2.2.1.2.1
    have e9 := R.2.2.1.1
    obtain ⟨k2', v2, D2, g2, M2, v9, vr, A2, q1', q2', f2'⟩ := note_eq K1.mo0 K1.pg0 K1.di0 (by omega) (by omega)
    have K2 := K1.note M2 A2 f2'
    rw [hv9] at v9 q1' q2'
    obtain ⟨k3', g3, A3, f3⟩ := zas_p (i := 3) (v := p) K2.pg0 (by omega) (by omega)
    have K3 := K2.page A3 f3
    refine ⟨k3', ?_, K3.fin (R.act hs v9 ((vr 2 (by decide)).trans (upZ_ne _ _ (by decide))) q1' q2' hOn hPn) ((vr 0 (by decide)).trans (upZ_self _ _ _))⟩
    have z3 : zai T k2' (b + 354 + 3) (iZ 3) = some (iZ (d 0 3)) := by rw [zai_p K2.pg0 (by omega) (by omega), ← hP.1.g]; rfl
    unfold FX7_setGap
    rw [mo_zo K.mo0, zsn]
    simp only [zJn]
    rw [iZ_long p1 p2, l1, l3, in_t (by omega) (by omega) (by omega) (by omega) (by omega) (by omega) gp, zsn, q0, if_neg (by decide), g1, zb2n, if_pos rfl, g2, zsn, mo_r5 K2.mo0, zsn, q3, z3, zsn, zsn, g3, zsn]
end C6
