/-! call: wordsWith -/
section Ww
variable {T : zT} {h : zH} {b o : Nat} {n : Int} {tx : Nat → Int} {d : Nat → Nat → Int} {cnt nxt : Int} {dd : Nat → Nat → Nat → Int} {fl : Nat → Int} {ds : Nat → Nat → Nat → Int} {fs v tx7 r D kp kb : Nat → Int} {x : Int64}
theorem c_wordsWith (S : St T h b o n tx d cnt nxt dd fl ds fs v tx7 r D kp kb x) (R : Rel n tx d cnt nxt dd fl ds fs v tx7 r D kp kb) {k p : Int} (k1 : -2147483648 ≤ k) (k2 : k < 2147483648) (p1 : -2147483648 ≤ p) (p2 : p < 2147483648) : Rnd T b o (FL_wordsWith T b (iZ k) (iZ p) o h) (FX7_wordsWith T (b + 354) (iZ k) (iZ p)) := by
  have hO := R.2.1.1
  have hP := R.2.1.2
  unfold FL_wordsWith
  by_cases g : 0 ≤ k ∧ k < 2
  case neg =>
    obtain ⟨j1, g1, J1⟩ := S.no R (c := 1) (by omega) (by omega)
    refine rnd_ex (E := "java/lang/IndexOutOfBoundsException") (h' := h) (c := 1) (by omega) ?_ ?_ ⟨0, j1, by omega, ?_, J1⟩
    · unfold FX6_wordsWith
      rw [cs_zo S.cs0, zsn, chkLet_f k1 k2 g, zbx_er]
    · rw [if_pos rfl, q1]
    · unfold FX7_wordsWith
      rw [mo_zo S.mo0, zsn]
      simp only [zJn]
      rw [isLet7_f k1 k2 g, zsn, q0, if_pos rfl, q1, g1, zb2n, if_neg (by decide)]
  obtain ⟨L, rfl⟩ : ∃ L : Nat, k = L := ⟨k.toNat, by omega⟩
  have hL : L < 2 := by omega
  by_cases gp : 1 ≤ p ∧ p ≤ 3
  case neg =>
    obtain ⟨j1, g1, J1⟩ := S.no R (c := 2) (by omega) (by omega)
    refine rnd_ex (E := "java/lang/IllegalArgumentException") (h' := h) (c := 2) (by omega) ?_ ?_ ⟨0, j1, by omega, ?_, J1⟩
    · unfold FX6_wordsWith
      rw [cs_zo S.cs0, zsn, chkLet_t (by omega) (by omega), zbx_ok, q1, q3, chkArg_f p1 p2 (by omega) (by omega) (by omega) (by omega) gp, zbx_er]
    · rw [if_neg (by decide), if_pos rfl, q2]
    · unfold FX7_wordsWith
      rw [mo_zo S.mo0, zsn]
      simp only [zJn]
      rw [isLet7_t (by omega) (by omega), zsn, q0, if_neg (by decide), iZ_long p1 p2, l1, l3, in_f p1 p2 (by omega) (by omega) (by omega) (by omega) gp, zsn, if_pos rfl, q2, g1, zb2n, if_neg (by decide)]
  have ed := gp_gp (d := d) p
  have hOn : OkD (dput d 0 3 p) := OkD_gap hO gp.1 gp.2
  have hC : ShAt T h (b + 4) (dput (dput d 0 3 p) 0 3 (d 0 3)) := by rw [ed]; exact S.sh0
  have hQ : OkD (dput (dput d 0 3 p) 0 3 (d 0 3)) := by rw [ed]; exact hO
  have hPn : Pg (dput (dput d 0 3 p) 0 3 (d 0 3)) r := by rw [ed]; exact hP
  have S3 : ∃ w, RdAt T h (b + 336) w ∧ RdIn w := S.2.2.1 3 (by omega)
  obtain ⟨w, hR, hI⟩ := S3
  obtain ⟨h1, w0, e, R1, f1, N1⟩ := readLetter_eqG hR hI hC hQ hOn (by omega) hL
  have e' : FX2_readLetter T (b + 336) (b + 4) (iZ L) (iZ p) h = _ := e
  have S1 := S.sc (i := 3) (by omega) ⟨_, R1, (rdok hOn N1).rin⟩ (fun q hq => f1 q hq)
  have hW := rdok (L := L) hOn N1
  have hb1 := hW.1
  have hb2 := hW.2.1
  refine rnd_ok (h' := h1) (val := wall (dput d 0 3 p) L ((dput d 0 3 p) 3 L) w0 (nL (dput d 0 3 p) ((dput d 0 3 p) 3 L)) 0 0) (by omega) ?_ S1 (fun q K => ?_)
  · unfold FX6_wordsWith
    rw [cs_zo S.cs0, zsn, chkLet_t (by omega) (by omega), zbx_ok, q1, q3, chkArg_t (by omega) (by omega) gp, zbx_ok, cs_r8 S.cs0, zsn, cs_r3 S.cs0, zsn, e', zb2n]
  · obtain ⟨k1', g1, K1⟩ := K.yes
    obtain ⟨bg0, sg0, wo0, H0⟩ := K1.wh
    obtain ⟨k2', v', bg, sg, wo, g2, H1, D1, lo, f2⟩ := layWords_eqG H0 (by omega) (by omega) (by omega) (by omega) hPn hQ hOn hL N1
    have g2' : FX7_layWords T (b + 354) (b + 354 + 3) (iZ L) (iZ p) k1' = _ := g2
    have K2 := K1.lay H1 f2
    refine ⟨k2', ?_, K2.fin ((R.ref 0).vv (lo 2 (by omega)) (lo 9 (by omega))) ((lo 0 (by omega)).trans (upZ_self _ _ _))⟩
    unfold FX7_wordsWith
    rw [mo_zo K.mo0, zsn]
    simp only [zJn]
    rw [isLet7_t (by omega) (by omega), zsn, q0, if_neg (by decide), iZ_long p1 p2, l1, l3, in_t (by omega) (by omega) (by omega) (by omega) (by omega) (by omega) gp, zsn, if_neg (by decide), g1, zb2n, if_pos rfl, mo_r5 K1.mo0, zsn, g2', zb2n]
end Ww
