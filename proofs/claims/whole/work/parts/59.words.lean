/-! the signs of a reading are signs; the words of its cells are words -/
def SgIn (w : Nat → Nat → Int) : Prop := (∀ j : Nat, (j : Int) < w 0 5 → 0 ≤ w 2 j ∧ w 2 j ≤ 26) ∧ ∀ j : Nat, j < 81 → -9 ≤ w 1 j ∧ w 1 j ≤ 81
section Sg2
variable {w d : Nat → Nat → Int}
theorem SgIn_st {l p g s : Int} {c : Nat} (hW : RdOk w 80) (h : SgIn w) (s1 : 0 ≤ s) (s2 : s ≤ 26) : SgIn (wst w c l p g s) := by
  obtain ⟨e1, e2, e3⟩ := wst_r (w := w) (l := l) (p := p) (g := g) (s := s) (c := c)
  obtain ⟨v0, v1, v5, v6, v7, v8⟩ := wst_v (w := w) (l := l) (p := p) (g := g) (s := s) (c := c)
  obtain ⟨c1, c2, c3, c4, c5⟩ := wgo1_c (l := l) (p := p) (g := g) hW
  obtain ⟨b1, b2, -⟩ := wgo1_br w l p g
  have o1 := hW.1
  have o2 := hW.2.1
  refine ⟨fun j hj => ?_, fun j hj => ?_⟩
  · rw [v5] at hj
    rw [e2, b2]
    by_cases q : j = (wgo1 w l p g 0 5).toNat
    · rw [q, upZ_self]; omega
    · rw [upZ_ne _ _ q]; exact h.1 j (by omega)
  · rw [e1, b1]
    by_cases q : j = c
    · rw [q, upZ_self]; omega
    · rw [upZ_ne _ _ q]; exact h.2 j hj
theorem SgIn_cell (hO : OkD d) {L f l p : Int} (hW : RdOk w 80) (h : SgIn w) (g : inG d (cX f l p) (cY f l p)) : SgIn (wcell d L f w l p) := by
  unfold wcell
  by_cases c : sAt d L (cX f l p) (cY f l p) = -9
  · rw [if_pos c]; exact h
  · rw [if_neg c]
    have := sAt_in hO (L := L) g
    exact SgIn_st hW h (by omega) (by omega)
theorem SgIn_line (hO : OkD d) {L f : Int} {l : Nat} (hW : RdOk w (9 * l)) (h : SgIn w) (l2 : l < nL d f) : ∀ p : Nat, p ≤ nP d f → SgIn (wline d L f l w p)
  | 0, _ => h
  | p + 1, hp => by
    have h9 := nLP hO f
    have r := RdOk_line hO (L := L) hW l2 p (by omega)
    exact SgIn_cell hO (r.mono (by omega)) (SgIn_line hO hW h l2 p (by omega)) (cXY_in (by omega) (by omega) (by omega) (by omega))
theorem SgIn_all (hO : OkD d) {L f : Int} (hW : RdOk w 0) (h : SgIn w) : ∀ l : Nat, l ≤ nL d f → SgIn (wall d L f w l)
  | 0, _ => h
  | l + 1, hl => by
    have r := RdOk_all (f := f) hO (L := L) hW l (by omega)
    exact SgIn_line hO r (SgIn_all hO hW h l (by omega)) (by omega) (nP d f) (Nat.le_refl _)
theorem rdsg (hO : OkD d) {L : Nat} (hN : RdNew w) : SgIn (wall d L (d 3 L) w (nL d (d 3 L))) := by
  refine SgIn_all hO hN.ok ⟨fun j hj => ?_, fun j hj => ?_⟩ _ (Nat.le_refl _)
  · have := hN.2.2.1; omega
  · have := hN.2.2.2.2 j hj; omega
theorem wsg_in (hO : OkD d) {L : Nat} (hN : RdNew w) {m p : Int} (m1 : 0 ≤ m) (m2 : m < wall d L (d 3 L) w (nL d (d 3 L)) 0 0) : -2147483648 ≤ wsg (wall d L (d 3 L) w (nL d (d 3 L))) m p ∧ wsg (wall d L (d 3 L) w (nL d (d 3 L))) m p < 2147483648 := by
  have hl := wlen_in (rdso (L := L) hO hN) (rdok (L := L) hO hN) m1 m2
  unfold wsg
  by_cases c : 0 ≤ p ∧ p < wlen (wall d L (d 3 L) w (nL d (d 3 L))) m
  · rw [if_pos c]
    have := (rdsg (L := L) hO hN).1 (wall d L (d 3 L) w (nL d (d 3 L)) 3 m.toNat + p).toNat (by omega)
    omega
  · rw [if_neg c]; omega
end Sg2
/-! calls: wordLength, sign, wordAt, count -/
section C3
variable {T : zT} {h : zH} {b o : Nat} {n : Int} {tx : Nat → Int} {d : Nat → Nat → Int} {cnt nxt : Int} {dd : Nat → Nat → Nat → Int} {fl : Nat → Int} {ds : Nat → Nat → Nat → Int} {fs v tx7 r D kp kb : Nat → Int} {x : Int64}
theorem c_wlen (S : St T h b o n tx d cnt nxt dd fl ds fs v tx7 r D kp kb x) (R : Rel n tx d cnt nxt dd fl ds fs v tx7 r D kp kb) {k m : Int} (k1 : -2147483648 ≤ k) (k2 : k < 2147483648) (m1 : -2147483648 ≤ m) (m2 : m < 2147483648) : Rnd T b o (FL_wordLength T b (iZ k) (iZ m) o h) (FX7_wordLength T (b + 354) (iZ k) (iZ m)) := by
  have hO := R.2.1.1
  have hP := R.2.1.2
  unfold FL_wordLength
  by_cases g : 0 ≤ k ∧ k < 2
  · obtain ⟨L, rfl⟩ : ∃ L : Nat, k = L := ⟨k.toNat, by omega⟩
    have hL : L < 2 := by omega
    obtain ⟨h', w0, e, R1, S1, N1⟩ := S.rp hO hL
    have hW := rdok (L := L) hO N1
    have hS := rdso (L := L) hO N1
    have b1 := hW.1
    have b2 := hW.2.1
    by_cases gm : 0 ≤ m ∧ m < wall d L (d 3 L) w0 (nL d (d 3 L)) 0 0
    · have hl := wlen_le hS hW gm.1 gm.2
      refine rnd_ok (h' := h') (val := wlen (wall d L (d 3 L) w0 (nL d (d 3 L))) m) (by omega) ?_ S1 (fun k K => ?_)
      · unfold FX6_wordLength
        rw [cs_zo S.cs0, zsn, chkLet_t (by omega) (by omega), zbx_ok, e, zb2n, chkWord_t S1.cs0 R1 hW gm.1 gm.2, zbx_ok, cs_r8 S1.cs0, zsn, lengthOf_eq R1 hW gm.1 gm.2, zsn]
      · obtain ⟨k1, v1, bg, sg, wo, g1, H1, D1, lo, K1, R1'⟩ := K.iw_t R hL N1 m1 m2
        rw [if_pos gm] at g1
        obtain ⟨k2, g2, M2, f2⟩ := refused_eq (T := T) K1.mo0 (c := 0) (by omega) (by omega)
        rw [if_pos rfl] at g2
        have K2 := K1.mo M2 f2
        refine ⟨k2, ?_, fin_ref K2 R1'⟩
        have A2 : Arr T k2 (b + 354 + 10) 82 bg := H1.2.1.kept (f2 _ (by omega))
        have hq := wds_len D1 (i := m) gm.1 gm.2
        have z1 : zai T k2 (b + 354 + 10) (iZ (m + 1)) = some (iZ (bg (m + 1).toNat)) := zai_Arr A2 (by omega) (by omega) (by omega)
        have z0 : zai T k2 (b + 354 + 10) (iZ m) = some (iZ (bg m.toNat)) := zai_Arr A2 (by omega) (by omega) (by omega)
        unfold FX7_wordLength
        rw [mo_zo K.mo0, zsn]
        simp only [zJn]
        rw [g1, zb2n, q0, q1, if_neg (by decide), g2, zb2n, if_pos rfl, mo_r13 K2.mo0, zsn, iZ_add, z1, zsn, zsn, z0, zsn, iZ_sub, hq]
    · obtain ⟨k1', v1, bg, sg, wo, g1, H1, D1, lo, K1, R1'⟩ := S1.iw_t R hL N1 m1 m2
      rw [if_neg gm] at g1
      obtain ⟨k2', g2, K2⟩ := K1.no R1' (c := 1) (by omega) (by omega)
      refine rnd_ex (E := "java/lang/IndexOutOfBoundsException") (h' := h') (c := 1) (by omega) ?_ ?_ ⟨0, k2', by omega, ?_, K2⟩
      · unfold FX6_wordLength
        rw [cs_zo S.cs0, zsn, chkLet_t (by omega) (by omega), zbx_ok, e, zb2n, chkWord_f S1.cs0 R1 hW m1 m2 gm, zbx_er]
      · rw [if_pos rfl, q1]
      · unfold FX7_wordLength
        rw [mo_zo S1.mo0, zsn]
        simp only [zJn]
        rw [g1, zb2n, q0, q1, if_pos rfl, g2, zb2n, if_neg (by decide)]
  · obtain ⟨j1, g1, K1⟩ := S.no R (c := 1) (by omega) (by omega)
    refine rnd_ex (E := "java/lang/IndexOutOfBoundsException") (h' := h) (c := 1) (by omega) ?_ ?_ ⟨0, j1, by omega, ?_, K1⟩
    · unfold FX6_wordLength
      rw [cs_zo S.cs0, zsn, chkLet_f k1 k2 g, zbx_er]
    · rw [if_pos rfl, q1]
    · unfold FX7_wordLength
      rw [mo_zo S.mo0, zsn]
      simp only [zJn]
      rw [S.iw_f k1 k2 g, zb2n, q0, q1, if_pos rfl, g1, zb2n, if_neg (by decide)]
theorem c_sign (S : St T h b o n tx d cnt nxt dd fl ds fs v tx7 r D kp kb x) (R : Rel n tx d cnt nxt dd fl ds fs v tx7 r D kp kb) {k m p : Int} (k1 : -2147483648 ≤ k) (k2 : k < 2147483648) (m1 : -2147483648 ≤ m) (m2 : m < 2147483648) (p1 : -2147483648 ≤ p) (p2 : p < 2147483648) : Rnd T b o (FL_sign T b (iZ k) (iZ m) (iZ p) o h) (FX7_sign T (b + 354) (iZ k) (iZ m) (iZ p)) := by
  have hO := R.2.1.1
  have hP := R.2.1.2
  unfold FL_sign
  by_cases g : 0 ≤ k ∧ k < 2
  · obtain ⟨L, rfl⟩ : ∃ L : Nat, k = L := ⟨k.toNat, by omega⟩
    have hL : L < 2 := by omega
    obtain ⟨h', w0, e, R1, S1, N1⟩ := S.rp hO hL
    have hW := rdok (L := L) hO N1
    have hS := rdso (L := L) hO N1
    have b1 := hW.1
    have b2 := hW.2.1
    by_cases gm : 0 ≤ m ∧ m < wall d L (d 3 L) w0 (nL d (d 3 L)) 0 0
    · by_cases gp : 0 ≤ p
      · have hl := wlen_in hS hW gm.1 gm.2
        have hl2 := wlen_le hS hW gm.1 gm.2
        have h5 : wall d L (d 3 L) w0 (nL d (d 3 L)) 0 5 ≤ 81 := hW.2.2.2.2.2.1
        refine rnd_ok (h' := h') (val := wsg (wall d L (d 3 L) w0 (nL d (d 3 L))) m p) (wsg_in hO N1 gm.1 gm.2) ?_ S1 (fun k K => ?_)
        · unfold FX6_sign
          rw [cs_zo S.cs0, zsn, chkLet_t (by omega) (by omega), zbx_ok, e, zb2n, chkWord_t S1.cs0 R1 hW gm.1 gm.2, zbx_ok, q0, if_pos (by rw [iZ_le (by omega) (by omega) (by omega) (by omega)]; omega), cs_r8 S1.cs0, zsn, signAt_eq R1 hW hS gm.1 gm.2 p1 p2, zsn]
        · obtain ⟨k1, v1, bg, sg, wo, g1, H1, D1, lo, K1, R1'⟩ := K.iw_t R hL N1 m1 m2
          rw [if_pos gm] at g1
          obtain ⟨k2, g2, M2, f2⟩ := refused_eq (T := T) K1.mo0 (c := 0) (by omega) (by omega)
          rw [if_pos rfl] at g2
          have K2 := K1.mo M2 f2
          refine ⟨k2, ?_, fin_ref K2 R1'⟩
          have A2 : Arr T k2 (b + 354 + 10) 82 bg := H1.2.1.kept (f2 _ (by omega))
          have A3 : Arr T k2 (b + 354 + 11) 81 sg := H1.2.2.1.kept (f2 _ (by omega))
          have hq := wds_len D1 (i := m) gm.1 gm.2
          have hb : bg m.toNat = wall d L (d 3 L) w0 (nL d (d 3 L)) 3 m.toNat := D1.2.2.1 m.toNat (by omega)
          have z1 : zai T k2 (b + 354 + 10) (iZ (m + 1)) = some (iZ (bg (m + 1).toNat)) := zai_Arr A2 (by omega) (by omega) (by omega)
          have z0 : zai T k2 (b + 354 + 10) (iZ m) = some (iZ (bg m.toNat)) := zai_Arr A2 (by omega) (by omega) (by omega)
          unfold FX7_sign
          rw [mo_zo K.mo0, zsn]
          simp only [zJn]
          rw [g1, zb2n, q0, q1, if_neg (by decide), if_pos (by rw [iZ_le (by omega) (by omega) (by omega) (by omega)]; omega), g2, zb2n, if_pos rfl, mo_r13 K2.mo0, zsn, iZ_add, z1, zsn, zsn, z0, zsn, iZ_sub, hq]
          unfold wsg
          by_cases c : p < wlen (wall d L (d 3 L) w0 (nL d (d 3 L))) m
          · have z3 : zai T k2 (b + 354 + 11) (iZ (bg m.toNat + p)) = some (iZ (sg (bg m.toNat + p).toNat)) := zai_Arr A3 (by omega) (by omega) (by omega)
            rw [if_neg (by rw [iZ_le (by omega) (by omega) (by omega) (by omega)]; omega), if_pos ⟨gp, c⟩, mo_r14 K2.mo0, zsn, zsn, z0, zsn, iZ_add, z3, zsn, hb, D1.2.2.2.2.1 _ (by omega)]
          · rw [if_pos (by rw [iZ_le (by omega) (by omega) (by omega) (by omega)]; omega), if_neg (by omega), qm9]
      · obtain ⟨k1', v1, bg, sg, wo, g1, H1, D1, lo, K1, R1'⟩ := S1.iw_t R hL N1 m1 m2
        rw [if_pos gm] at g1
        obtain ⟨k2', g2, K2⟩ := K1.no R1' (c := 2) (by omega) (by omega)
        refine rnd_ex (E := "java/lang/IllegalArgumentException") (h' := h') (c := 2) (by omega) ?_ ?_ ⟨0, k2', by omega, ?_, K2⟩
        · unfold FX6_sign
          rw [cs_zo S.cs0, zsn, chkLet_t (by omega) (by omega), zbx_ok, e, zb2n, chkWord_t S1.cs0 R1 hW gm.1 gm.2, zbx_ok, q0, if_neg (by rw [iZ_le (by omega) (by omega) (by omega) (by omega)]; omega)]
        · rw [if_neg (by decide), if_pos rfl, q2]
        · unfold FX7_sign
          rw [mo_zo S1.mo0, zsn]
          simp only [zJn]
          rw [g1, zb2n, q0, q1, if_neg (by decide), if_neg (by rw [iZ_le (by omega) (by omega) (by omega) (by omega)]; omega), q2, g2, zb2n, if_neg (by decide)]
    · obtain ⟨k1', v1, bg, sg, wo, g1, H1, D1, lo, K1, R1'⟩ := S1.iw_t R hL N1 m1 m2
      rw [if_neg gm] at g1
      obtain ⟨k2', g2, K2⟩ := K1.no R1' (c := 1) (by omega) (by omega)
      refine rnd_ex (E := "java/lang/IndexOutOfBoundsException") (h' := h') (c := 1) (by omega) ?_ ?_ ⟨0, k2', by omega, ?_, K2⟩
      · unfold FX6_sign
        rw [cs_zo S.cs0, zsn, chkLet_t (by omega) (by omega), zbx_ok, e, zb2n, chkWord_f S1.cs0 R1 hW m1 m2 gm, zbx_er]
      · rw [if_pos rfl, q1]
      · unfold FX7_sign
        rw [mo_zo S1.mo0, zsn]
        simp only [zJn]
        rw [g1, zb2n, q0, q1, if_pos rfl, g2, zb2n, if_neg (by decide)]
  · obtain ⟨j1, g1, K1⟩ := S.no R (c := 1) (by omega) (by omega)
    refine rnd_ex (E := "java/lang/IndexOutOfBoundsException") (h' := h) (c := 1) (by omega) ?_ ?_ ⟨0, j1, by omega, ?_, K1⟩
    · unfold FX6_sign
      rw [cs_zo S.cs0, zsn, chkLet_f k1 k2 g, zbx_er]
    · rw [if_pos rfl, q1]
    · unfold FX7_sign
      rw [mo_zo S.mo0, zsn]
      simp only [zJn]
      rw [S.iw_f k1 k2 g, zb2n, q0, q1, if_pos rfl, g1, zb2n, if_neg (by decide)]
end C3
