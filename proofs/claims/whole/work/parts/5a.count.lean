/-! calls: wordAt, count -/
section C4
variable {T : zT} {h : zH} {b o : Nat} {n : Int} {tx : Nat → Int} {d : Nat → Nat → Int} {cnt nxt : Int} {dd : Nat → Nat → Nat → Int} {fl : Nat → Int} {ds : Nat → Nat → Nat → Int} {fs v tx7 r D kp kb : Nat → Int} {x : Int64}
theorem c_wordAt (S : St T h b o n tx d cnt nxt dd fl ds fs v tx7 r D kp kb x) (R : Rel n tx d cnt nxt dd fl ds fs v tx7 r D kp kb) {k X Y : Int} (k1 : -2147483648 ≤ k) (k2 : k < 2147483648) (x1 : -2147483648 ≤ X) (x2 : X < 2147483648) (y1 : -2147483648 ≤ Y) (y2 : Y < 2147483648) : Rnd T b o (FL_wordAt T b (iZ k) (iZ X) (iZ Y) o h) (FX7_wordAt T (b + 354) (iZ k) (iZ X) (iZ Y)) := by
  have hO := R.2.1.1
  have hP := R.2.1.2
  unfold FL_wordAt
  by_cases g : 0 ≤ k ∧ k < 2
  · obtain ⟨L, rfl⟩ : ∃ L : Nat, k = L := ⟨k.toNat, by omega⟩
    have hL : L < 2 := by omega
    by_cases gc : inG d X Y
    · obtain ⟨h', w0, e, R1, S1, N1⟩ := S.rp hO hL
      have g9 := hO.g9 gc
      have hg := (rdsg (L := L) hO N1).2 (9 * X + Y).toNat (by omega)
      have ha : FX1_at T (b + 336 + 1) (iZ (9 * X + Y)) h' = some (iZ ((wall d L (d 3 L) w0 (nL d (d 3 L))) 1 (9 * X + Y).toNat)) := at_in (R1.2 1 (by omega) (by omega)) (by omega) (by omega) (by omega)
      refine rnd_ok (h' := h') (val := (wall d L (d 3 L) w0 (nL d (d 3 L))) 1 (9 * X + Y).toNat) (by omega) ?_ S1 (fun k K => ?_)
      · unfold FX6_wordAt
        rw [cs_zo S.cs0, zsn, chkLet_t (by omega) (by omega), zbx_ok, chkCell_t S.cs0 S.sh0 hO gc, zbx_ok, e, zb2n, cs_r8 S1.cs0, zsn, rd_r1 R1, zsn, cellOf_eq, zsn, ha, zsn]
      · obtain ⟨k1, g1, K1⟩ := K.yes
        obtain ⟨k2, v', bg, sg, wo, g2, H2, D2, lo, K2, R2⟩ := K1.ln (R.ref 0) hL N1
        refine ⟨k2, ?_, K2.fin R2 ((lo 0 (by omega)).trans (upZ_self _ _ _))⟩
        have z1 : zai T k2 (b + 354 + 9) (iZ (9 * Y + X)) = some (iZ (wo (9 * Y + X).toNat)) := zai_Arr H2.2.2.2.1 (by omega) (by omega) (by omega)
        unfold FX7_wordAt
        rw [mo_zo K.mo0, zsn]
        simp only [zJn]
        rw [isLet7_t (by omega) (by omega), zsn, q0, if_neg (by decide), mo_r5 K.mo0, zsn, isCell_t K.pg0 hP.1 hO gc, zsn, if_neg (by decide), g1, zb2n, if_pos rfl, g2, zb2n, mo_r12 H2.1, zsn, q9, iZ_mul, iZ_add, z1, zsn, D2.2.2.2.2.2 X Y g9.1 g9.2.1 g9.2.2.1 g9.2.2.2]
    · obtain ⟨j1, g1, K1⟩ := S.no R (c := 1) (by omega) (by omega)
      refine rnd_ex (E := "java/lang/IndexOutOfBoundsException") (h' := h) (c := 1) (by omega) ?_ ?_ ⟨0, j1, by omega, ?_, K1⟩
      · unfold FX6_wordAt
        rw [cs_zo S.cs0, zsn, chkLet_t (by omega) (by omega), zbx_ok, chkCell_f S.cs0 S.sh0 hO x1 x2 y1 y2 gc, zbx_er]
      · rw [if_pos rfl, q1]
      · unfold FX7_wordAt
        rw [mo_zo S.mo0, zsn]
        simp only [zJn]
        rw [isLet7_t (by omega) (by omega), zsn, q0, if_neg (by decide), mo_r5 S.mo0, zsn, isCell_f S.pg0 hP.1 hO x1 x2 y1 y2 gc, zsn, if_pos rfl, q1, g1, zb2n, if_neg (by decide)]
  · obtain ⟨j1, g1, K1⟩ := S.no R (c := 1) (by omega) (by omega)
    refine rnd_ex (E := "java/lang/IndexOutOfBoundsException") (h' := h) (c := 1) (by omega) ?_ ?_ ⟨0, j1, by omega, ?_, K1⟩
    · unfold FX6_wordAt
      rw [cs_zo S.cs0, zsn, chkLet_f k1 k2 g, zbx_er]
    · rw [if_pos rfl, q1]
    · unfold FX7_wordAt
      rw [mo_zo S.mo0, zsn]
      simp only [zJn]
      rw [isLet7_f k1 k2 g, zsn, q0, if_pos rfl, q1, g1, zb2n, if_neg (by decide)]
def csg (w : Nat → Nat → Int) (s : Int) : Int := zsum (w 0 5).toNat (fun j => if w 2 j = s then 1 else 0)
theorem csg_in {w : Nat → Nat → Int} (hW : RdOk w 81) (s : Int) : 0 ≤ csg w s ∧ csg w s ≤ 81 := by
  have h5 := hW.2.2.2.2.1
  have h6 := hW.2.2.2.2.2.1
  have g := zsum_le (f := fun j => if w 2 j = s then 1 else 0) (m := 1) (w 0 5).toNat (fun j hj => by split <;> omega)
  unfold csg
  omega
theorem count6 {w : Nat → Nat → Int} {Rr : Nat} (hS : RdAt T h Rr w) (hW : RdOk w 81) (hG : SgIn w) {s : Int} (s1 : -2147483648 ≤ s) (s2 : s < 2147483648) : FX2_countSign T Rr (iZ s) h = some (iZ (csg w s)) := by
  have h5 := hW.2.2.2.2.1
  have h6 := hW.2.2.2.2.2.1
  unfold FX2_countSign csg
  rw [rd_zo hS, zsn, q0]
  refine (loop_sum0 (L := LX2_countSign_4 T h Rr (iZ s) (fun (x13 : Int32) => some x13)) (K := fun v => some v) (g := fun j => if w 2 j = s then 1 else 0) (n := (w 0 5).toNat) (by omega) (fun k t i hi => ?_) (fun k t => ?_) 0).trans (by rw [Int.zero_add])
  · have ha : FX1_at T (Rr + 3) (iZ (i : Int)) h = some (iZ (w 2 i)) := at_in (hS.2 2 (by omega) (by omega)) (by omega) (by omega) (by omega)
    have hg := hG.1 i (by omega)
    rw [LX2_countSign_4.eq_2, rd_g5 hS, zsn, if_neg (by rw [iZ_le (by omega) (by omega) (by omega) (by omega)]; omega)]
    simp only [zJn]
    rw [rd_r2 hS, zsn, ha, zsn, q0, q1, iZ_add, iZ_add, iZ_add]
    by_cases c : w 2 i = s
    · rw [if_pos (by rw [c]), if_pos c]
    · rw [if_neg (by rw [iZ_eq (by omega) (by omega) (by omega) (by omega)]; exact c), if_neg c]
  · rw [LX2_countSign_4.eq_2, rd_g5 hS, zsn, if_pos (by rw [iZ_le (by omega) (by omega) (by omega) (by omega)]; omega)]
theorem count7_ {w : Nat → Nat → Int} {m a : Nat} {bg sg wo : Nat → Int} (H : WH T h m a r v bg sg wo) (hD : Wds w v bg sg wo) (hW : RdOk w 81) (hG : SgIn w) {s : Int} (s1 : -2147483648 ≤ s) (s2 : s < 2147483648) {ρ : Type} (K : Int32 → Option ρ) : LX7_count_48 T h m (iZ s) K FUEL (iZ 0) (iZ 0) = K (iZ (csg w s)) := by
  have h5 := hW.2.2.2.2.1
  have h6 := hW.2.2.2.2.2.1
  have v16 := hD.2.1
  unfold csg
  refine (loop_sum0 (L := LX7_count_48 T h m (iZ s) K) (K := K) (g := fun j => if w 2 j = s then 1 else 0) (n := (w 0 5).toNat) (by omega) (fun k t i hi => ?_) (fun k t => ?_) 0).trans (by rw [Int.zero_add])
  · have hs : sg i = w 2 i := hD.2.2.2.2.1 i (by omega)
    have z1 : zai T h (m + 11) (iZ (i : Int)) = some (iZ (w 2 i)) := by rw [← hs]; exact zai_Arr H.2.2.1 (by omega) (by omega) (by omega)
    have hg := hG.1 i (by omega)
    rw [LX7_count_48.eq_2, mo_g16 H.1, zsn, v16, if_neg (by rw [iZ_le (by omega) (by omega) (by omega) (by omega)]; omega)]
    simp only [zJn]
    rw [mo_r14 H.1, zsn, z1, zsn, q0, q1, iZ_add, iZ_add, iZ_add]
    by_cases c : w 2 i = s
    · rw [if_pos (by rw [c]), if_pos c]
    · rw [if_neg (by rw [iZ_eq (by omega) (by omega) (by omega) (by omega)]; exact c), if_neg c]
  · rw [LX7_count_48.eq_2, mo_g16 H.1, zsn, v16, if_pos (by rw [iZ_le (by omega) (by omega) (by omega) (by omega)]; omega)]
theorem c_count (S : St T h b o n tx d cnt nxt dd fl ds fs v tx7 r D kp kb x) (R : Rel n tx d cnt nxt dd fl ds fs v tx7 r D kp kb) {k z : Int} (k1 : -2147483648 ≤ k) (k2 : k < 2147483648) (z1 : -2147483648 ≤ z) (z2 : z < 2147483648) : Rnd T b o (FL_count T b (iZ k) (iZ z) o h) (FX7_count T (b + 354) (iZ k) (iZ z)) := by
  have hO := R.2.1.1
  have hP := R.2.1.2
  unfold FL_count
  by_cases g : 0 ≤ k ∧ k < 2
  · obtain ⟨L, rfl⟩ : ∃ L : Nat, k = L := ⟨k.toNat, by omega⟩
    have hL : L < 2 := by omega
    by_cases gz : 0 ≤ z ∧ z ≤ 26
    · obtain ⟨h', w0, e, R1, S1, N1⟩ := S.rp hO hL
      have hW := rdok (L := L) hO N1
      have hG := rdsg (L := L) hO N1
      have hc := csg_in hW z
      refine rnd_ok (h' := h') (val := csg (wall d L (d 3 L) w0 (nL d (d 3 L))) z) (by omega) ?_ S1 (fun k K => ?_)
      · unfold FX6_count
        rw [cs_zo S.cs0, zsn, chkLet_t (by omega) (by omega), zbx_ok, q0, q26, chkArg_t (by omega) (by omega) gz, zbx_ok, e, zb2n, cs_r8 S1.cs0, zsn, count6 R1 hW hG z1 z2, zsn]
      · obtain ⟨k1, g1, K1⟩ := K.yes
        obtain ⟨k2, v', bg, sg, wo, g2, H2, D2, lo, K2, R2⟩ := K1.ln (R.ref 0) hL N1
        refine ⟨k2, ?_, K2.fin R2 ((lo 0 (by omega)).trans (upZ_self _ _ _))⟩
        unfold FX7_count
        rw [mo_zo K.mo0, zsn]
        simp only [zJn]
        rw [isLet7_t (by omega) (by omega), zsn, q0, if_neg (by decide), iZ_long (by omega) (by omega), l0, l26, in_t (by omega) (by omega) (by omega) (by omega) (by omega) (by omega) gz, zsn, if_neg (by decide), g1, zb2n, if_pos rfl, g2, zb2n, count7_ H2 D2 hW hG z1 z2]
    · obtain ⟨k1, g1, K1⟩ := S.no R (c := 2) (by omega) (by omega)
      refine rnd_ex (E := "java/lang/IllegalArgumentException") (h' := h) (c := 2) (by omega) ?_ ?_ ⟨0, k1, by omega, ?_, K1⟩
      · unfold FX6_count
        rw [cs_zo S.cs0, zsn, chkLet_t (by omega) (by omega), zbx_ok, q0, q26, chkArg_f z1 z2 (by omega) (by omega) (by omega) (by omega) gz, zbx_er]
      · rw [if_neg (by decide), if_pos rfl, q2]
      · unfold FX7_count
        rw [mo_zo S.mo0, zsn]
        simp only [zJn]
        rw [isLet7_t (by omega) (by omega), zsn, q0, if_neg (by decide), iZ_long z1 z2, l0, l26, in_f z1 z2 (by omega) (by omega) (by omega) (by omega) gz, zsn, if_pos rfl, q2, g1, zb2n, if_neg (by decide)]
  · obtain ⟨j1, g1, K1⟩ := S.no R (c := 1) (by omega) (by omega)
    refine rnd_ex (E := "java/lang/IndexOutOfBoundsException") (h' := h) (c := 1) (by omega) ?_ ?_ ⟨0, j1, by omega, ?_, K1⟩
    · unfold FX6_count
      rw [cs_zo S.cs0, zsn, chkLet_f k1 k2 g, zbx_er]
    · rw [if_pos rfl, q1]
    · unfold FX7_count
      rw [mo_zo S.mo0, zsn]
      simp only [zJn]
      rw [isLet7_f k1 k2 g, zsn, q0, if_pos rfl, q1, g1, zb2n, if_neg (by decide)]
end C4
