/-! the other calls that read -/
section Ob2
variable {T : zT} {hz h h' : zH} {b : Nat} {σ τ : Sg}
theorem k_length (O : Ob T hz h b σ) {L : Nat} (hL : L < 2) {m : Int} (m1 : 0 ≤ m) (m2 : m < rd σ.1 L 0 0) : Rq T hz b (FL_tryLength T b (iZ L) (iZ m) h) (wlen (rd σ.1 L) m) σ := by
  have hO := O.ok
  have O9 := O
  obtain ⟨n, tx, hn, d, nxt, dd, fl, ds, S, R⟩ := O
  obtain ⟨h', n', v, e, A, hE, oW, sW, gW, C', O'⟩ := ob_read O9 hL
  have m3 : m < v 0 0 := by rw [hE.1]; exact m2
  have el := lengthOf_eq A oW m1 m3
  rw [rde_len hE (rd_ok hO L) m1 m2] at el
  unfold FL_tryLength
  refine rq_ok (h' := h') ?_ O'
  unfold FX6_wordLength
  rw [cs_zo S.cs0, zsn, chkLet_t (by omega) (by omega), zbx_ok, e, zb2n, chkWord_t C' A oW m1 m3, zbx_ok, cs_r8 C', zsn, el, zsn]
theorem k_length_no (O : Ob T hz h b σ) {L : Nat} (hL : L < 2) {m : Int} (m1 : -2147483648 ≤ m) (m2 : m < 2147483648) (g : ¬ (0 ≤ m ∧ m < rd σ.1 L 0 0)) : Rq T hz b (FL_tryLength T b (iZ L) (iZ m) h) (-9999001) σ := by
  have O9 := O
  obtain ⟨n, tx, hn, d, nxt, dd, fl, ds, S, R⟩ := O
  obtain ⟨h', n', v, e, A, hE, oW, sW, gW, C', O'⟩ := ob_read O9 hL
  unfold FL_tryLength
  refine rq_ex (E := "java/lang/IndexOutOfBoundsException") (h' := h') ?_ (by rw [if_pos rfl, qI1]) O'
  unfold FX6_wordLength
  rw [cs_zo S.cs0, zsn, chkLet_t (by omega) (by omega), zbx_ok, e, zb2n, chkWord_f C' A oW m1 m2 (by rw [hE.1]; exact g), zbx_er]
theorem k_sign (O : Ob T hz h b σ) {L : Nat} (hL : L < 2) {m p : Int} (m1 : 0 ≤ m) (m2 : m < rd σ.1 L 0 0) (p1 : 0 ≤ p) (p2 : p < 2147483648) : Rq T hz b (FL_trySign T b (iZ L) (iZ m) (iZ p) h) (wsg (rd σ.1 L) m p) σ := by
  have hO := O.ok
  have O9 := O
  obtain ⟨n, tx, hn, d, nxt, dd, fl, ds, S, R⟩ := O
  obtain ⟨h', n', v, e, A, hE, oW, sW, gW, C', O'⟩ := ob_read O9 hL
  have m3 : m < v 0 0 := by rw [hE.1]; exact m2
  have el := signAt_eq A oW sW m1 m3 (p := p) (by omega) p2
  rw [rde_sig hE (rd_ok hO L) (rd_so hO L) m1 m2] at el
  unfold FL_trySign
  refine rq_ok (h' := h') ?_ O'
  unfold FX6_sign
  rw [cs_zo S.cs0, zsn, chkLet_t (by omega) (by omega), zbx_ok, e, zb2n, chkWord_t C' A oW m1 m3, zbx_ok, q0, if_pos (by rw [iZ_le (by omega) (by omega) (by omega) (by omega)]; omega), cs_r8 C', zsn, el, zsn]
theorem k_sign_neg (O : Ob T hz h b σ) {L : Nat} (hL : L < 2) {m : Int} (m1 : 0 ≤ m) (m2 : m < rd σ.1 L 0 0) : Rq T hz b (FL_trySign T b (iZ L) (iZ m) (iZ (-1)) h) (-9999002) σ := by
  have O9 := O
  obtain ⟨n, tx, hn, d, nxt, dd, fl, ds, S, R⟩ := O
  obtain ⟨h', n', v, e, A, hE, oW, sW, gW, C', O'⟩ := ob_read O9 hL
  have m3 : m < v 0 0 := by rw [hE.1]; exact m2
  unfold FL_trySign
  refine rq_ex (E := "java/lang/IllegalArgumentException") (h' := h') ?_ (by rw [if_neg (by decide), if_pos rfl, qI2]) O'
  unfold FX6_sign
  rw [cs_zo S.cs0, zsn, chkLet_t (by omega) (by omega), zbx_ok, e, zb2n, chkWord_t C' A oW m1 m3, zbx_ok, q0, if_neg (by rw [iZ_le (by omega) (by omega) (by omega) (by omega)]; omega)]
theorem k_sign_k (O : Ob T hz h b σ) (m p : Int) : Rq T hz b (FL_trySign T b (iZ 2) (iZ m) (iZ p) h) (-9999001) σ := by
  have O9 := O
  obtain ⟨n, tx, hn, d, nxt, dd, fl, ds, S, R⟩ := O
  unfold FL_trySign
  refine rq_ex (E := "java/lang/IndexOutOfBoundsException") (h' := h) ?_ (by rw [if_pos rfl, qI1]) O9
  unfold FX6_sign
  rw [cs_zo S.cs0, zsn, chkLet_f (by omega) (by omega) (by omega), zbx_er]
theorem k_at (O : Ob T hz h b σ) {L : Nat} (hL : L < 2) {x y : Int} (g : inG σ.1 x y) : Rq T hz b (FL_tryAt T b (iZ L) (iZ x) (iZ y) h) (rd σ.1 L 1 (9 * x + y).toNat) σ := by
  have hO := O.ok
  have g9 := hO.g9 g
  have O9 := O
  obtain ⟨n, tx, hn, d, nxt, dd, fl, ds, S, ⟨-, hl⟩, R⟩ := O
  obtain ⟨h', n', v, e, A, hE, oW, sW, gW, C', O'⟩ := ob_read O9 hL
  have ha : FX1_at T (b + 336 + 1) (iZ (9 * x + y)) h' = some (iZ (v 1 (9 * x + y).toNat)) := at_in (A.2 1 (by omega) (by omega)) (by omega) (by omega) (by omega)
  rw [hE.2.2.2.2.1 _ (by omega)] at ha
  unfold FL_tryAt
  refine rq_ok (h' := h') ?_ O'
  unfold FX6_wordAt
  rw [cs_zo S.cs0, zsn, chkLet_t (by omega) (by omega), zbx_ok, chkCell_t S.cs0 S.sh0 (hl.ok hO) ((hl.ig x y).mpr g), zbx_ok, e, zb2n, cs_r8 C', zsn, rd_r1 A, zsn, cellOf_eq, zsn, ha, zsn]
theorem k_at_no (O : Ob T hz h b σ) {L : Nat} (hL : L < 2) {x y : Int} (x1 : -2147483648 ≤ x) (x2 : x < 2147483648) (y1 : -2147483648 ≤ y) (y2 : y < 2147483648) (g : ¬ inG σ.1 x y) : Rq T hz b (FL_tryAt T b (iZ L) (iZ x) (iZ y) h) (-9999001) σ := by
  have hO := O.ok
  have O9 := O
  obtain ⟨n, tx, hn, d, nxt, dd, fl, ds, S, ⟨-, hl⟩, R⟩ := O
  unfold FL_tryAt
  refine rq_ex (E := "java/lang/IndexOutOfBoundsException") (h' := h) ?_ (by rw [if_pos rfl, qI1]) O9
  unfold FX6_wordAt
  rw [cs_zo S.cs0, zsn, chkLet_t (by omega) (by omega), zbx_ok, chkCell_f S.cs0 S.sh0 (hl.ok hO) x1 x2 y1 y2 (fun z => g ((hl.ig x y).mp z)), zbx_er]
theorem k_at_k (O : Ob T hz h b σ) (x y : Int) : Rq T hz b (FL_tryAt T b (iZ 2) (iZ x) (iZ y) h) (-9999001) σ := by
  have O9 := O
  obtain ⟨n, tx, hn, d, nxt, dd, fl, ds, S, R⟩ := O
  unfold FL_tryAt
  refine rq_ex (E := "java/lang/IndexOutOfBoundsException") (h' := h) ?_ (by rw [if_pos rfl, qI1]) O9
  unfold FX6_wordAt
  rw [cs_zo S.cs0, zsn, chkLet_f (by omega) (by omega) (by omega), zbx_er]
theorem k_count (O : Ob T hz h b σ) {L : Nat} (hL : L < 2) {s : Int} (s1 : 0 ≤ s) (s2 : s ≤ 26) : Rq T hz b (FL_tryCount T b (iZ L) (iZ s) h) (csg (rd σ.1 L) s) σ := by
  have hO := O.ok
  have O9 := O
  obtain ⟨n, tx, hn, d, nxt, dd, fl, ds, S, R⟩ := O
  obtain ⟨h', n', v, e, A, hE, oW, sW, gW, C', O'⟩ := ob_read O9 hL
  have ec := count6 A oW gW (s := s) (by omega) (by omega)
  rw [rde_csg hE s] at ec
  unfold FL_tryCount
  refine rq_ok (h' := h') ?_ O'
  unfold FX6_count
  rw [cs_zo S.cs0, zsn, chkLet_t (by omega) (by omega), zbx_ok, q0, q26, chkArg_t (by omega) (by omega) ⟨s1, s2⟩, zbx_ok, e, zb2n, cs_r8 C', zsn, ec, zsn]
theorem k_count_no (O : Ob T hz h b σ) : Rq T hz b (FL_tryCount T b (iZ 0) (iZ 27) h) (-9999002) σ := by
  have O9 := O
  obtain ⟨n, tx, hn, d, nxt, dd, fl, ds, S, R⟩ := O
  unfold FL_tryCount
  refine rq_ex (E := "java/lang/IllegalArgumentException") (h' := h) ?_ (by rw [if_neg (by decide), if_pos rfl, qI2]) O9
  unfold FX6_count
  rw [cs_zo S.cs0, zsn, chkLet_t (by omega) (by omega), zbx_ok, q0, q26, chkArg_f (by omega) (by omega) (by omega) (by omega) (by omega) (by omega) (by omega), zbx_er]
theorem k_with (O : Ob T hz h b σ) {L : Nat} (hL : L < 2) {p : Int} (p1 : 1 ≤ p) (p2 : p ≤ 3) : Rq T hz b (FL_tryWith T b (iZ L) (iZ p) h) (rd (dput σ.1 0 3 p) L 0 0) σ := by
  have O9 := O
  obtain ⟨n, tx, hn, d, nxt, dd, fl, ds, S, ⟨hO, hl⟩, R⟩ := O
  have hO' := hl.ok hO
  have ed := gp_gp (d := d) p
  have hOn : OkD (dput d 0 3 p) := OkD_gap hO' p1 p2
  have hC : ShAt T h (b + 4) (dput (dput d 0 3 p) 0 3 (d 0 3)) := by rw [ed]; exact S.sh0
  have hQ : OkD (dput (dput d 0 3 p) 0 3 (d 0 3)) := by rw [ed]; exact hO'
  have S3 : ∃ w, RdAt T h (b + 336) w ∧ RdIn w := S.2.2.1 3 (by omega)
  obtain ⟨w, hR, hI⟩ := S3
  obtain ⟨h1, w0, e, R1, f1, N1⟩ := readLetter_eqG hR hI hC hQ hOn (by omega) hL
  have e' : FX2_readLetter T (b + 336) (b + 4) (iZ L) (iZ p) h = _ := e
  have S1 := S.sc (i := 3) (by omega) ⟨_, R1, (rdok hOn N1).rin⟩ (fun q hq => f1 q hq)
  have hE := rd_of (L := L) hOn N1
  have hlg : LE (dput σ.1 0 3 p) (dput d 0 3 p) := by
    refine ⟨fun j hj => ?_, fun k hk => hl.2.1 k hk, fun x y g => ?_⟩
    · show upZ (d 0) 3 p j = upZ (σ.1 0) 3 p j
      unfold upZ
      by_cases c : j = 3
      · rw [if_pos c, if_pos c]
      · rw [if_neg c, if_neg c]; exact hl.1 j hj
    · exact hl.2.2 x y ((d0_in (by omega) x y).mp g)
  rw [le_rd hlg hL] at hE
  unfold FL_tryWith
  refine rq_ok (h' := h1) ?_ ⟨n, tx, hn, d, nxt, dd, fl, ds, S1, ⟨hO, hl⟩, R⟩
  unfold FX6_wordsWith
  rw [cs_zo S.cs0, zsn, chkLet_t (by omega) (by omega), zbx_ok, q1, q3, chkArg_t (by omega) (by omega) ⟨p1, p2⟩, zbx_ok, cs_r8 S.cs0, zsn, cs_r3 S.cs0, zsn, e', zb2n, hE.1]
theorem k_with_no (O : Ob T hz h b σ) : Rq T hz b (FL_tryWith T b (iZ 0) (iZ 4) h) (-9999002) σ := by
  have O9 := O
  obtain ⟨n, tx, hn, d, nxt, dd, fl, ds, S, R⟩ := O
  unfold FL_tryWith
  refine rq_ex (E := "java/lang/IllegalArgumentException") (h' := h) ?_ (by rw [if_neg (by decide), if_pos rfl, qI2]) O9
  unfold FX6_wordsWith
  rw [cs_zo S.cs0, zsn, chkLet_t (by omega) (by omega), zbx_ok, q1, q3, chkArg_f (by omega) (by omega) (by omega) (by omega) (by omega) (by omega) (by omega), zbx_er]
end Ob2
