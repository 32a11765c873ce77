/-! an action: both sides remember -/
section A1
variable {T : zT} {h : zH} {b o : Nat} {n : Int} {tx : Nat → Int} {d : Nat → Nat → Int} {cnt nxt : Int} {dd : Nat → Nat → Nat → Int} {fl : Nat → Int} {ds : Nat → Nat → Nat → Int} {fs v tx7 r D kp kb : Nat → Int} {x : Int64}
theorem St.rem (S : St T h b o n tx d cnt nxt dd fl ds fs v tx7 r D kp kb x) (R : Rel n tx d cnt nxt dd fl ds fs v tx7 r D kp kb) : ∃ h' d', FX0_remember T (b + 55) (b + 4) h = some h' ∧ SameD d d' ∧ St T h' b o n tx d (if 14 < cnt + 1 then 14 else cnt + 1) ((nxt + 1) % 14) (ddup dd nxt.toNat d') (upZ fl nxt.toNat 1) ds fs v tx7 r D kp kb x := by
  obtain ⟨-, -, ⟨-, ⟨c1, c2, c3, c4⟩, -⟩, -⟩ := R
  obtain ⟨h', d', e, H1, s1, f1⟩ := remember_eq S.hs0 c1 c2 c3 c4 S.sh0 (by omega)
  exact ⟨h', d', e, s1, S.hist H1 f1⟩
theorem St.nt (S : St T h b o n tx d cnt nxt dd fl ds fs v tx7 r D kp kb x) (R : Rel n tx d cnt nxt dd fl ds fs v tx7 r D kp kb) : ∃ h' v' D', FX7_note T (b + 354) h = some h' ∧ St T h' b o n tx d cnt nxt dd fl ds fs v' tx7 r D' kp kb x ∧ v' 9 = (if 14 < v 9 + 1 then 14 else v 9 + 1) ∧ (∀ j, j ≠ 9 → v' j = v j) ∧ (∀ q : Nat, q < 739 → D' (739 * (if v 9 = 14 then 13 else (v 9).toNat) + q) = r q) ∧ (∀ t q : Nat, q < 739 → (t : Int) + (if v 9 = 14 then 1 else 0) < v 9 → D' (739 * t + q) = D (739 * (t + (if v 9 = 14 then 1 else 0)) + q)) := by
  obtain ⟨-, -, ⟨e9, ⟨c1, c2, c3, c4⟩, -⟩, -⟩ := R
  obtain ⟨h', v', D', e, M1, v9, vr, A1, d1, d2, f1⟩ := note_eq S.mo0 S.pg0 S.di0 (by omega) (by omega)
  exact ⟨h', v', D', e, S.note M1 A1 f1, v9, vr, d1, d2⟩
theorem Rel.act (R : Rel n tx d cnt nxt dd fl ds fs v tx7 r D kp kb) {d1 dn : Nat → Nat → Int} {v' rn D' : Nat → Int} (hs : SameD d d1) (e9 : v' 9 = (if 14 < v 9 + 1 then 14 else v 9 + 1)) (e2 : v' 2 = v 2) (D1 : ∀ q : Nat, q < 739 → D' (739 * (if v 9 = 14 then 13 else (v 9).toNat) + q) = r q) (D2 : ∀ t q : Nat, q < 739 → (t : Int) + (if v 9 = 14 then 1 else 0) < v 9 → D' (739 * t + q) = D (739 * (t + (if v 9 = 14 then 1 else 0)) + q)) (hO : OkD dn) (hP : Pg dn rn) : Rel n tx dn (if 14 < cnt + 1 then 14 else cnt + 1) ((nxt + 1) % 14) (ddup dd nxt.toNat d1) (upZ fl nxt.toNat 1) ds fs v' tx7 rn D' kp kb := by
  obtain ⟨⟨a1, a2, a3, a4⟩, ⟨a5, a6⟩, ⟨a7, a8⟩, a9⟩ := R
  rw [a7] at e9 D1 D2
  exact ⟨⟨a1, a2, e2.trans a3, a4⟩, ⟨hO, hP⟩, ⟨e9, DiR_add a8 (OkD_same hs a5) (Pg_same hs a5 a6 D1) D2⟩, a9⟩
end A1
/-! calls: write, erase -/
section C5
variable {T : zT} {h : zH} {b o : Nat} {n : Int} {tx : Nat → Int} {d : Nat → Nat → Int} {cnt nxt : Int} {dd : Nat → Nat → Nat → Int} {fl : Nat → Int} {ds : Nat → Nat → Nat → Int} {fs v tx7 r D kp kb : Nat → Int} {x : Int64}
theorem c_write (S : St T h b o n tx d cnt nxt dd fl ds fs v tx7 r D kp kb x) (R : Rel n tx d cnt nxt dd fl ds fs v tx7 r D kp kb) {X Y s k w : Int} (x1 : -2147483648 ≤ X) (x2 : X < 2147483648) (y1 : -2147483648 ≤ Y) (y2 : Y < 2147483648) (s1 : -2147483648 ≤ s) (s2 : s < 2147483648) (k1 : -2147483648 ≤ k) (k2 : k < 2147483648) (w1 : -2147483648 ≤ w) (w2 : w < 2147483648) : Rnd T b o (FL_write T b (iZ X) (iZ Y) (iZ s) (iZ k) (iZ w) o h) (FX7_write T (b + 354) (iZ X) (iZ Y) (iZ s) (iZ k) (iZ w)) := by
  have hO := R.2.1.1
  have hP := R.2.1.2
  unfold FL_write
  by_cases g : inG d X Y
  case neg =>
    by_cases gs : 0 ≤ s ∧ s ≤ 26
    · by_cases gk : 0 ≤ k ∧ k ≤ 3
      · by_cases gw : 0 ≤ w ∧ w ≤ 8
        · obtain ⟨j1, g1, J1⟩ := S.no R (c := 1) (by omega) (by omega)
          refine rnd_ex (E := "java/lang/IndexOutOfBoundsException") (h' := h) (c := 1) (by omega) ?_ ?_ ⟨0, j1, by omega, ?_, J1⟩
          · unfold FX6_write
            rw [cs_zo S.cs0, zsn, chkCell_f S.cs0 S.sh0 hO x1 x2 y1 y2 g, zbx_er]
          · rw [if_pos rfl, q1]
          · unfold FX7_write
            rw [mo_zo S.mo0, zsn]
            simp only [zJn]
            rw [iZ_long s1 s2, l0, l26, in_t (by omega) (by omega) (by omega) (by omega) (by omega) (by omega) gs, zsn, q0, if_neg (by decide), iZ_long k1 k2, l3, in_t (by omega) (by omega) (by omega) (by omega) (by omega) (by omega) gk, zsn, if_neg (by decide), iZ_long w1 w2, l8, in_t (by omega) (by omega) (by omega) (by omega) (by omega) (by omega) gw, zsn, if_neg (by decide), mo_r5 S.mo0, zsn, isCell_f S.pg0 hP.1 hO x1 x2 y1 y2 g, zsn, if_pos rfl, q1, g1, zb2n, if_neg (by decide)]
        · obtain ⟨j1, g1, J1⟩ := S.no R (c := 1) (by omega) (by omega)
          refine rnd_ex (E := "java/lang/IndexOutOfBoundsException") (h' := h) (c := 1) (by omega) ?_ ?_ ⟨0, j1, by omega, ?_, J1⟩
          · unfold FX6_write
            rw [cs_zo S.cs0, zsn, chkCell_f S.cs0 S.sh0 hO x1 x2 y1 y2 g, zbx_er]
          · rw [if_pos rfl, q1]
          · unfold FX7_write
            rw [mo_zo S.mo0, zsn]
            simp only [zJn]
            rw [iZ_long s1 s2, l0, l26, in_t (by omega) (by omega) (by omega) (by omega) (by omega) (by omega) gs, zsn, q0, if_neg (by decide), iZ_long k1 k2, l3, in_t (by omega) (by omega) (by omega) (by omega) (by omega) (by omega) gk, zsn, if_neg (by decide), iZ_long w1 w2, l8, in_f w1 w2 (by omega) (by omega) (by omega) (by omega) gw, zsn, if_pos rfl, mo_r5 S.mo0, zsn, isCell_f S.pg0 hP.1 hO x1 x2 y1 y2 g, zsn, if_pos rfl, q1, g1, zb2n, if_neg (by decide)]
      · obtain ⟨j1, g1, J1⟩ := S.no R (c := 1) (by omega) (by omega)
        refine rnd_ex (E := "java/lang/IndexOutOfBoundsException") (h' := h) (c := 1) (by omega) ?_ ?_ ⟨0, j1, by omega, ?_, J1⟩
        · unfold FX6_write
          rw [cs_zo S.cs0, zsn, chkCell_f S.cs0 S.sh0 hO x1 x2 y1 y2 g, zbx_er]
        · rw [if_pos rfl, q1]
        · unfold FX7_write
          rw [mo_zo S.mo0, zsn]
          simp only [zJn]
          rw [iZ_long s1 s2, l0, l26, in_t (by omega) (by omega) (by omega) (by omega) (by omega) (by omega) gs, zsn, q0, if_neg (by decide), iZ_long k1 k2, l3, in_f k1 k2 (by omega) (by omega) (by omega) (by omega) gk, zsn, if_pos rfl, mo_r5 S.mo0, zsn, isCell_f S.pg0 hP.1 hO x1 x2 y1 y2 g, zsn, if_pos rfl, q1, g1, zb2n, if_neg (by decide)]
    · obtain ⟨j1, g1, J1⟩ := S.no R (c := 1) (by omega) (by omega)
      refine rnd_ex (E := "java/lang/IndexOutOfBoundsException") (h' := h) (c := 1) (by omega) ?_ ?_ ⟨0, j1, by omega, ?_, J1⟩
      · unfold FX6_write
        rw [cs_zo S.cs0, zsn, chkCell_f S.cs0 S.sh0 hO x1 x2 y1 y2 g, zbx_er]
      · rw [if_pos rfl, q1]
      · unfold FX7_write
        rw [mo_zo S.mo0, zsn]
        simp only [zJn]
        rw [iZ_long s1 s2, l0, l26, in_f s1 s2 (by omega) (by omega) (by omega) (by omega) gs, zsn, q0, if_pos rfl, mo_r5 S.mo0, zsn, isCell_f S.pg0 hP.1 hO x1 x2 y1 y2 g, zsn, if_pos rfl, q1, g1, zb2n, if_neg (by decide)]
  have hcn := hO.cn g
  have g9 := hO.g9 g
  have hce := cel_in g9
  by_cases gs : 0 ≤ s ∧ s ≤ 26
  case neg =>
    obtain ⟨j1, g1, J1⟩ := S.no R (c := 2) (by omega) (by omega)
    refine rnd_ex (E := "java/lang/IllegalArgumentException") (h' := h) (c := 2) (by omega) ?_ ?_ ⟨0, j1, by omega, ?_, J1⟩
    · unfold FX6_write
      rw [cs_zo S.cs0, zsn, chkCell_t S.cs0 S.sh0 hO g, zbx_ok, q0, q26, chkArg_f s1 s2 (by omega) (by omega) (by omega) (by omega) gs, zbx_er]
    · rw [if_neg (by decide), if_pos rfl, q2]
    · unfold FX7_write
      rw [mo_zo S.mo0, zsn]
      simp only [zJn]
      rw [iZ_long s1 s2, l0, l26, in_f s1 s2 (by omega) (by omega) (by omega) (by omega) gs, zsn, q0, if_pos rfl, mo_r5 S.mo0, zsn, isCell_t S.pg0 hP.1 hO g, zsn, if_neg (by decide), if_pos trivial, q2, g1, zb2n, if_neg (by decide)]
  by_cases gk : 0 ≤ k ∧ k ≤ 3
  case neg =>
    obtain ⟨j1, g1, J1⟩ := S.no R (c := 2) (by omega) (by omega)
    refine rnd_ex (E := "java/lang/IllegalArgumentException") (h' := h) (c := 2) (by omega) ?_ ?_ ⟨0, j1, by omega, ?_, J1⟩
    · unfold FX6_write
      rw [cs_zo S.cs0, zsn, chkCell_t S.cs0 S.sh0 hO g, zbx_ok, q0, q26, chkArg_t (by omega) (by omega) gs, zbx_ok, q3, chkArg_f k1 k2 (by omega) (by omega) (by omega) (by omega) gk, zbx_er]
    · rw [if_neg (by decide), if_pos rfl, q2]
    · unfold FX7_write
      rw [mo_zo S.mo0, zsn]
      simp only [zJn]
      rw [iZ_long s1 s2, l0, l26, in_t (by omega) (by omega) (by omega) (by omega) (by omega) (by omega) gs, zsn, q0, if_neg (by decide), iZ_long k1 k2, l3, in_f k1 k2 (by omega) (by omega) (by omega) (by omega) gk, zsn, if_pos rfl, mo_r5 S.mo0, zsn, isCell_t S.pg0 hP.1 hO g, zsn, if_neg (by decide), if_pos trivial, q2, g1, zb2n, if_neg (by decide)]
  by_cases gw : 0 ≤ w ∧ w ≤ 8
  case neg =>
    obtain ⟨j1, g1, J1⟩ := S.no R (c := 2) (by omega) (by omega)
    refine rnd_ex (E := "java/lang/IllegalArgumentException") (h' := h) (c := 2) (by omega) ?_ ?_ ⟨0, j1, by omega, ?_, J1⟩
    · unfold FX6_write
      rw [cs_zo S.cs0, zsn, chkCell_t S.cs0 S.sh0 hO g, zbx_ok, q0, q26, chkArg_t (by omega) (by omega) gs, zbx_ok, q3, chkArg_t (by omega) (by omega) gk, zbx_ok, q8, chkArg_f w1 w2 (by omega) (by omega) (by omega) (by omega) gw, zbx_er]
    · rw [if_neg (by decide), if_pos rfl, q2]
    · unfold FX7_write
      rw [mo_zo S.mo0, zsn]
      simp only [zJn]
      rw [iZ_long s1 s2, l0, l26, in_t (by omega) (by omega) (by omega) (by omega) (by omega) (by omega) gs, zsn, q0, if_neg (by decide), iZ_long k1 k2, l3, in_t (by omega) (by omega) (by omega) (by omega) (by omega) (by omega) gk, zsn, if_neg (by decide), iZ_long w1 w2, l8, in_f w1 w2 (by omega) (by omega) (by omega) (by omega) gw, zsn, if_pos rfl, mo_r5 S.mo0, zsn, isCell_t S.pg0 hP.1 hO g, zsn, if_neg (by decide), if_pos trivial, q2, g1, zb2n, if_neg (by decide)]
  by_cases gr : cn d X Y < 2
  case neg =>
    obtain ⟨j1, g1, J1⟩ := S.no R (c := 3) (by omega) (by omega)
    refine rnd_ex (E := "java/lang/IllegalStateException") (h' := h) (c := 3) (by omega) ?_ ?_ ⟨0, j1, by omega, ?_, J1⟩
    · unfold FX6_write
      rw [cs_zo S.cs0, zsn, chkCell_t S.cs0 S.sh0 hO g, zbx_ok, q0, q26, chkArg_t (by omega) (by omega) gs, zbx_ok, q3, chkArg_t (by omega) (by omega) gk, zbx_ok, q8, chkArg_t (by omega) (by omega) gw, zbx_ok, cs_r3 S.cs0, zsn, hasRoom_f S.sh0 hO x1 x2 y1 y2 (fun z => gr z.2), zsn, if_pos rfl]
    · rw [if_neg (by decide), if_neg (by decide), if_pos rfl, q3]
    · unfold FX7_write
      rw [mo_zo S.mo0, zsn]
      simp only [zJn]
      rw [iZ_long s1 s2, l0, l26, in_t (by omega) (by omega) (by omega) (by omega) (by omega) (by omega) gs, zsn, q0, if_neg (by decide), iZ_long k1 k2, l3, in_t (by omega) (by omega) (by omega) (by omega) (by omega) (by omega) gk, zsn, if_neg (by decide), iZ_long w1 w2, l8, in_t (by omega) (by omega) (by omega) (by omega) (by omega) (by omega) gw, zsn, if_neg (by decide), mo_r5 S.mo0, zsn, isCell_t S.pg0 hP.1 hO g, zsn, if_neg (by decide), if_neg (by decide), zsn, cellAt_eq, zsn, zai_c S.pg0 hP.1 hO g, zsn, q2, if_pos (by rw [iZ_eq (by omega) (by omega) (by omega) (by omega)]; omega), q3, g1, zb2n, if_neg (by decide)]
  obtain ⟨h1, d1, e1, hs, S1⟩ := S.rem R
  obtain ⟨h2, e2, N2, f2⟩ := addMark_eq (s := s) (k := k) (w := w) S1.sh0 hO g gr
  have S2 := S1.pres N2 f2
  refine rnd_ok (val := cn d X Y) (by omega) ?_ S2 (fun q K => ?_)
  · unfold FX6_write
    rw [cs_zo S.cs0, zsn, chkCell_t S.cs0 S.sh0 hO g, zbx_ok, q0, q26, chkArg_t (by omega) (by omega) gs, zbx_ok, q3, chkArg_t (by omega) (by omega) gk, zbx_ok, q8, chkArg_t (by omega) (by omega) gw, zbx_ok, cs_r3 S.cs0, zsn, hasRoom_t S.sh0 hO g gr, zsn, if_neg (by decide), cs_r6 S.cs0, zsn, zsn, e1, zsn, cs_r3 S1.cs0, zsn, marksIn_t S1.sh0 hO g, zsn, zsn, e2, zsn]
  · obtain ⟨k1', g1, K1⟩ := K.yes
    have hv9 : upZ v 0 0 9 = v 9 := upZ_ne _ _ (by decide)
    obtain ⟨c1, c2, -⟩ := R.2.2.1.2.1
    have e9 := R.2.2.1.1
    obtain ⟨k2', v2, D2, g2, M2, v9, vr, A2, q1', q2', f2'⟩ := note_eq K1.mo0 K1.pg0 K1.di0 (by omega) (by omega)
    have K2 := K1.note M2 A2 f2'
    rw [hv9] at v9 q1' q2'
    obtain ⟨k3', g3, A3, f3⟩ := writeOn_eq (s := s) (k := k) (w := w) K2.pg0 hce.1 hce.2 hcn.1 gr (hP.1.c X Y g)
    have K3 := K2.page A3 f3
    refine ⟨k3', ?_, K3.fin (R.act hs v9 ((vr 2 (by decide)).trans (upZ_ne _ _ (by decide))) q1' q2' (OkD_add hO g gr gs.1 gs.2 gk.1 gk.2 gw.1 gw.2) (Pg_add hP hO g gr)) ((vr 0 (by decide)).trans (upZ_self _ _ _))⟩
    unfold FX7_write
    rw [mo_zo K.mo0, zsn]
    simp only [zJn]
    rw [iZ_long s1 s2, l0, l26, in_t (by omega) (by omega) (by omega) (by omega) (by omega) (by omega) gs, zsn, q0, if_neg (by decide), iZ_long k1 k2, l3, in_t (by omega) (by omega) (by omega) (by omega) (by omega) (by omega) gk, zsn, if_neg (by decide), iZ_long w1 w2, l8, in_t (by omega) (by omega) (by omega) (by omega) (by omega) (by omega) gw, zsn, if_neg (by decide), mo_r5 K.mo0, zsn, isCell_t K.pg0 hP.1 hO g, zsn, if_neg (by decide), if_neg (by decide), zsn, cellAt_eq, zsn, zai_c K.pg0 hP.1 hO g, zsn, q2, if_neg (by rw [iZ_eq (by omega) (by omega) (by omega) (by omega)]; omega), g1, zb2n, if_pos rfl, g2, zsn, mo_r5 K2.mo0, zsn, cellAt_eq, zsn, g3, zb2n]
theorem c_erase (S : St T h b o n tx d cnt nxt dd fl ds fs v tx7 r D kp kb x) (R : Rel n tx d cnt nxt dd fl ds fs v tx7 r D kp kb) {X Y i : Int} (x1 : -2147483648 ≤ X) (x2 : X < 2147483648) (y1 : -2147483648 ≤ Y) (y2 : Y < 2147483648) (i1 : -2147483648 ≤ i) (i2 : i < 2147483648) : Rnd T b o (FL_erase T b (iZ X) (iZ Y) (iZ i) o h) (FX7_erase T (b + 354) (iZ X) (iZ Y) (iZ i)) := by
  have hO := R.2.1.1
  have hP := R.2.1.2
  unfold FL_erase
  by_cases g : inG d X Y ∧ 0 ≤ i ∧ i < cn d X Y
  case neg =>
    obtain ⟨j1, g1, J1⟩ := S.no R (c := 1) (by omega) (by omega)
    refine rnd_ex (E := "java/lang/IndexOutOfBoundsException") (h' := h) (c := 1) (by omega) ?_ ?_ ⟨0, j1, by omega, ?_, J1⟩
    · unfold FX6_erase
      rw [cs_zo S.cs0, zsn, chkMark_f S.cs0 S.sh0 hO x1 x2 y1 y2 i1 i2 g, zbx_er]
    · rw [if_pos rfl, q1]
    · unfold FX7_erase
      rw [mo_zo S.mo0, zsn]
      simp only [zJn]
      rw [mo_r5 S.mo0, zsn, isMark_f S.pg0 hP.1 hO x1 x2 y1 y2 i1 i2 g, zsn, q0, if_pos rfl, q1, g1, zb2n, if_neg (by decide)]
  obtain ⟨g, j1, j2⟩ := g
  have hcn := hO.cn g
  have g9 := hO.g9 g
  have hce := cel_in g9
  have hm := hO.mk g j1 j2
  have hp := pl_in g9 j1 (by omega)
  obtain ⟨h1, d1, e1, hs, S1⟩ := S.rem R
  have t5 : FX1_at T (b + 4 + 9) (iZ (2 * (9 * X + Y) + i)) h1 = some (iZ (d 5 (pl X Y i))) := at_in (sh_n5 S1.sh0) (by omega) (by omega) (by omega)
  obtain ⟨h2, e2, N2, f2⟩ := removeMark_eq S1.sh0 hO g j1 j2
  have S2 := S1.pres N2 f2
  unfold mkOk at hm
  refine rnd_ok (val := d 5 (pl X Y i)) (by omega) ?_ S2 (fun q K => ?_)
  · unfold FX6_erase
    rw [cs_zo S.cs0, zsn, chkMark_t S.cs0 S.sh0 hO g j1 j2, zbx_ok, cs_r6 S.cs0, zsn, cs_r3 S.cs0, zsn, e1, zsn, cs_r3 S1.cs0, zsn, sh_r5 S1.sh0, zsn, placeOf_eq, zsn, t5, zsn, zsn, e2, zsn]
  · obtain ⟨k1', g1, K1⟩ := K.yes
    have hv9 : upZ v 0 0 9 = v 9 := upZ_ne _ _ (by decide)
    obtain ⟨c1, c2, -⟩ := R.2.2.1.2.1
    have e9 := R.2.2.1.1
    obtain ⟨k2', v2, D2, g2, M2, v9, vr, A2, q1', q2', f2'⟩ := note_eq K1.mo0 K1.pg0 K1.di0 (by omega) (by omega)
    have K2 := K1.note M2 A2 f2'
    rw [hv9] at v9 q1' q2'
    obtain ⟨k3', g3, A3, f3⟩ := eraseOn_eq (i := i) K2.pg0 hce.1 hce.2 j1 (by omega)
    have K3 := K2.page A3 f3
    refine ⟨k3', ?_, K3.fin (R.act hs v9 ((vr 2 (by decide)).trans (upZ_ne _ _ (by decide))) q1' q2' (OkD_rem hO g j1 j2) (Pg_rem hP hO g j1 j2)) ((vr 0 (by decide)).trans (upZ_self _ _ _))⟩
    unfold FX7_erase
    rw [mo_zo K.mo0, zsn]
    simp only [zJn]
    rw [mo_r5 K.mo0, zsn, isMark_t K.pg0 hP.1 hO g j1 j2, zsn, q0, if_neg (by decide), g1, zb2n, if_pos rfl, g2, zsn, mo_r5 K2.mo0, zsn, cellAt_eq, zsn, g3, zb2n, (hP.1.m X Y i g j1 j2).1]
end C5
