/-! calls: about, letter -/
def lmax (w : Nat → Nat → Int) : Int := accu (fun i s => if s < wlen w i then wlen w i else s) (w 0 0).toNat 0
theorem wlen_le {w : Nat → Nat → Int} (h : SO w) (hW : RdOk w 81) {i : Int} (i1 : 0 ≤ i) (i2 : i < w 0 0) : 1 ≤ wlen w i ∧ wlen w i ≤ 81 := by
  have g := wlen_in h hW i1 i2
  obtain ⟨a1, a2, a3, a4, a5, a6, -⟩ := hW
  omega
theorem gsum_in {d : Nat → Nat → Int} (hO : OkD d) {f : Int → Int → Int} {m : Int} (h0 : 0 ≤ m) (hm : m ≤ 1000) (hf : ∀ x y, inG d x y → 0 ≤ f x y ∧ f x y ≤ m) : 0 ≤ gsum d f ∧ gsum d f ≤ 81000 := by
  obtain ⟨w1, w2, w3, w4⟩ := hO.wh
  unfold gsum
  have g1 : ∀ i : Nat, i < (d 0 0).toNat → 0 ≤ zsum (d 0 1).toNat (fun y => f i y) ∧ zsum (d 0 1).toNat (fun y => f i y) ≤ 9000 := fun i hi => by
    have g := zsum_le (f := fun y => f i y) (m := 1000) (d 0 1).toNat (fun j hj => by
      have := hf i j ⟨by omega, by omega, by omega, by omega⟩
      omega)
    omega
  have g := zsum_le (f := fun x => zsum (d 0 1).toNat (fun y => f x y)) (m := 9000) (d 0 0).toNat g1
  omega
theorem aval_in {d : Nat → Nat → Int} (hO : OkD d) {z : Int} (g : 0 ≤ z ∧ z ≤ 9) : -2147483648 ≤ aval d z ∧ aval d z < 2147483648 := by
  have o1 := hO.1
  have b1 := gsum_in hO (f := cn d) (m := 2) (by omega) (by omega) (fun x y gg => hO.cn gg)
  have b2 := gsum_in hO (f := dbt d) (m := 2) (by omega) (by omega) (fun x y gg => by
    have := hO.cn gg
    unfold dbt
    split <;> omega)
  have b3 := gsum_in hO (f := dcd d) (m := 2) (by omega) (by omega) (fun x y gg => by
    unfold dcd
    have a1 := zsum_le (f := fun i => if dec d x y i = -9 then 0 else 1) (m := 1) 2 (fun i hi => by split <;> omega)
    omega)
  have b4 := gsum_in hO (f := fll d) (m := 2) (by omega) (by omega) (fun x y gg => by
    unfold fll
    split <;> omega)
  have b5 := gsum_in hO (f := fun x y => (if z = 7 ∧ cn d x y = 2 then 1 else 0) + zsum (cn d x y).toNat (fun i => cinc d z x y i)) (m := 1000) (by omega) (by omega) (fun x y gg => by
    have hc := hO.cn gg
    have a1 := zsum_le (f := fun i => cinc d z x y i) (m := 1) (cn d x y).toNat (fun i hi => by
      unfold cinc
      split
      · split <;> omega
      · split
        · omega
        · split <;> omega)
    have a2 : 0 ≤ (if z = 7 ∧ cn d x y = 2 then (1 : Int) else 0) ∧ (if z = 7 ∧ cn d x y = 2 then (1 : Int) else 0) ≤ 1 := by split <;> omega
    omega)
  unfold aval
  by_cases c0 : z = 0
  · rw [if_pos c0]; omega
  rw [if_neg c0]
  by_cases c1 : z = 1
  · rw [if_pos c1]; omega
  rw [if_neg c1]
  by_cases c2 : z = 2
  · rw [if_pos c2]; omega
  rw [if_neg c2]
  by_cases c3 : z = 3
  · rw [if_pos c3]; omega
  rw [if_neg c3]
  by_cases c4 : z = 4
  · rw [if_pos c4]; omega
  rw [if_neg c4]
  by_cases c5 : z = 5
  · rw [if_pos c5]; omega
  rw [if_neg c5]
  by_cases c6 : z = 6
  · rw [if_pos c6]; omega
  rw [if_neg c6]
  by_cases c7 : z = 7
  · rw [if_pos c7]; omega
  rw [if_neg c7]
  omega
section C2
variable {T : zT} {h : zH} {b o : Nat} {n : Int} {tx : Nat → Int} {d : Nat → Nat → Int} {cnt nxt : Int} {dd : Nat → Nat → Nat → Int} {fl : Nat → Int} {ds : Nat → Nat → Nat → Int} {fs v tx7 r D kp kb : Nat → Int} {x : Int64}
theorem long6 {w : Nat → Nat → Int} {Rr : Nat} (hS : RdAt T h Rr w) (hW : RdOk w 81) (hO : SO w) : FX2_longest T Rr h = some (iZ (lmax w)) ∧ 0 ≤ lmax w ∧ lmax w ≤ 81 := by
  have hb := hW.1
  have hb2 := hW.2.1
  have en : (((w 0 0).toNat : Nat) : Int) = w 0 0 := by omega
  have g := loop_acc (L := LX2_longest_4 T h Rr (fun x8 => some x8)) (K := fun v => some v) (g := fun i s => if s < wlen w i then wlen w i else s) (P := fun _ s => 0 ≤ s ∧ s ≤ 81) (n := (w 0 0).toNat) (by omega) (fun k s i hi hp => ?_) (fun k s hp => ?_) (s := 0) (by omega)
  · refine ⟨?_, g.2⟩
    unfold FX2_longest
    rw [rd_zo hS, zsn, q0, g.1]
    rfl
  · have hl := wlen_le hO hW (i := i) (by omega) (by omega)
    refine ⟨?_, ?_⟩
    · rw [LX2_longest_4.eq_2, rd_g0 hS, zsn, if_neg (by rw [iZ_le (by omega) (by omega) (by omega) (by omega)]; omega), lengthOf_eq hS hW (by omega) (by omega), zsn, q1, iZ_add]
      by_cases c : s < wlen w i
      · rw [if_pos (by rw [iZ_lt (by omega) (by omega) (by omega) (by omega)]; exact c), if_pos c]
      · rw [if_neg (by rw [iZ_lt (by omega) (by omega) (by omega) (by omega)]; exact c), if_neg c]
    · by_cases c : s < wlen w i
      · rw [if_pos c]; omega
      · rw [if_neg c]; omega
  · rw [LX2_longest_4.eq_2, rd_g0 hS, zsn, if_pos (by rw [iZ_le (by omega) (by omega) (by omega) (by omega)]; omega)]
theorem long7 {w : Nat → Nat → Int} {m a : Nat} {bg sg wo : Nat → Int} (H : WH T h m a r v bg sg wo) (hD : Wds w v bg sg wo) (hW : RdOk w 81) (hO : SO w) {ρ : Type} (K : Int32 → Option ρ) (z : Int32) : LX7_letter_67 T h m z (iZ (w 0 0)) K FUEL (iZ 0) (iZ 0) = K (iZ (lmax w)) := by
  have hb := hW.1
  have hb2 := hW.2.1
  refine (loop_acc (L := LX7_letter_67 T h m z (iZ (w 0 0)) K) (K := K) (g := fun i s => if s < wlen w i then wlen w i else s) (P := fun _ s => 0 ≤ s ∧ s ≤ 81) (n := (w 0 0).toNat) (by omega) (fun k s i hi hp => ?_) (fun k s hp => ?_) (s := 0) (by omega)).1
  · have hl := wlen_le hO hW (i := i) (by omega) (by omega)
    have hq := wds_len hD (i := i) (by omega) (by omega)
    have z1 : zai T h (m + 10) (iZ ((i : Int) + 1)) = some (iZ (bg ((i : Int) + 1).toNat)) := zai_Arr H.2.1 (by omega) (by omega) (by omega)
    have z0 : zai T h (m + 10) (iZ (i : Int)) = some (iZ (bg (i : Int).toNat)) := zai_Arr H.2.1 (by omega) (by omega) (by omega)
    refine ⟨?_, ?_⟩
    · rw [LX7_letter_67.eq_2, if_neg (by rw [iZ_le (by omega) (by omega) (by omega) (by omega)]; omega)]
      simp only [zJn]
      rw [mo_r13 H.1, zsn, q1, iZ_add, z1, zsn, zsn, z0, zsn, iZ_sub, hq]
      by_cases c : s < wlen w i
      · rw [if_neg (by rw [iZ_le (by omega) (by omega) (by omega) (by omega)]; omega), zsn, z1, zsn, zsn, z0, zsn, iZ_sub, hq, if_pos c]
      · rw [if_pos (by rw [iZ_le (by omega) (by omega) (by omega) (by omega)]; omega), if_neg c]
    · by_cases c : s < wlen w i
      · rw [if_pos c]; omega
      · rw [if_neg c]; omega
  · rw [LX7_letter_67.eq_2, if_pos (by rw [iZ_le (by omega) (by omega) (by omega) (by omega)]; omega)]
theorem l4_ : (4 : Int64) = lZ 4 := rfl
theorem c_letter (S : St T h b o n tx d cnt nxt dd fl ds fs v tx7 r D kp kb x) (R : Rel n tx d cnt nxt dd fl ds fs v tx7 r D kp kb) {k z : Int} (k1 : -2147483648 ≤ k) (k2 : k < 2147483648) (z1 : -2147483648 ≤ z) (z2 : z < 2147483648) : Rnd T b o (FL_letter T b (iZ k) (iZ z) o h) (FX7_letter T (b + 354) (iZ k) (iZ z)) := by
  have hO := R.2.1.1
  have hP := R.2.1.2
  unfold FL_letter
  by_cases g : 0 ≤ k ∧ k < 2
  · obtain ⟨L, rfl⟩ : ∃ L : Nat, k = L := ⟨k.toNat, by omega⟩
    have hL : L < 2 := by omega
    have hl := hO.lw hL
    by_cases gz : 0 ≤ z ∧ z ≤ 4
    · by_cases gs : z < 3
      · have t1 : FX1_at T (b + 4 + 1) (iZ L) h = some (iZ (d 1 L)) := at_in (sh_n1 S.sh0) (by omega) (by omega) (by omega)
        have t2 : FX1_at T (b + 4 + 3) (iZ L) h = some (iZ (d 2 L)) := at_in (sh_n2 S.sh0) (by omega) (by omega) (by omega)
        have t3 : FX1_at T (b + 4 + 5) (iZ L) h = some (iZ (d 3 L)) := at_in (sh_n3 S.sh0) (by omega) (by omega) (by omega)
        unfold lwOk at hl
        refine rnd_ok (val := if z = 0 then d 1 L else if z = 1 then d 2 L else d 3 L) ?_ ?_ S (fun k K => ?_)
        · split <;> (try split) <;> omega
        · unfold FX6_letter
          rw [cs_zo S.cs0, zsn, chkLet_t (by omega) (by omega), zbx_ok, q0, q4, chkArg_t (by omega) (by omega) gz, zbx_ok, q1, q2, q3]
          rcases (show z = 0 ∨ z = 1 ∨ z = 2 by omega) with rfl | rfl | rfl
          · rw [if_pos rfl, cs_r3 S.cs0, zsn, sh_r1 S.sh0, zsn, t1, zsn]; rfl
          · rw [if_neg (by decide), if_pos rfl, cs_r3 S.cs0, zsn, sh_r2 S.sh0, zsn, t2, zsn]; rfl
          · rw [if_neg (by decide), if_neg (by decide), if_pos rfl, cs_r3 S.cs0, zsn, sh_r3 S.sh0, zsn, t3, zsn]; rfl
        · obtain ⟨k1, g1, K1⟩ := K.yes
          refine ⟨k1, ?_, fin_ref K1 R⟩
          obtain ⟨p1, p2, p3⟩ := zai_l K1.pg0 hP.1 hL
          unfold FX7_letter
          rw [mo_zo K.mo0, zsn]
          simp only [zJn]
          rw [isLet7_t (by omega) (by omega), zsn, q0, if_neg (by decide), iZ_long (by omega) (by omega), l0, l4, in_t (by omega) (by omega) (by omega) (by omega) (by omega) (by omega) gz, zsn, if_neg (by decide), g1, zb2n, if_pos rfl, q3, if_neg (by rw [iZ_le (by omega) (by omega) (by omega) (by omega)]; omega), mo_r5 K1.mo0, zsn, q4, iZ_mul, iZ_add, iZ_add]
          rcases (show z = 0 ∨ z = 1 ∨ z = 2 by omega) with rfl | rfl | rfl
          · rw [Int.add_zero, p1, zsn]; rfl
          · rw [p2, zsn]; rfl
          · rw [p3, zsn]; rfl
      · obtain ⟨h', w0, e, R1, S1, N1⟩ := S.rp hO hL
        have hW := rdok (L := L) hO N1
        have hS := rdso (L := L) hO N1
        obtain ⟨l1, l2, l3⟩ := long6 R1 hW hS
        have b1 := hW.1
        have b2 := hW.2.1
        refine rnd_ok (h' := h') (val := if z = 3 then wall d L (d 3 L) w0 (nL d (d 3 L)) 0 0 else lmax (wall d L (d 3 L) w0 (nL d (d 3 L)))) ?_ ?_ S1 (fun k K => ?_)
        · split <;> omega
        · unfold FX6_letter
          rw [cs_zo S.cs0, zsn, chkLet_t (by omega) (by omega), zbx_ok, q0, q4, chkArg_t (by omega) (by omega) gz, zbx_ok, q1, q2, q3]
          rcases (show z = 3 ∨ z = 4 by omega) with rfl | rfl
          · rw [if_neg (by decide), if_neg (by decide), if_neg (by decide), if_pos rfl, e, zb2n]; rfl
          · rw [if_neg (by decide), if_neg (by decide), if_neg (by decide), if_neg (by decide), e, zb2n, cs_r8 S1.cs0, zsn, l1, zsn]; rfl
        · obtain ⟨k1, g1, K1⟩ := K.yes
          obtain ⟨k2, v', bg, sg, wo, g2, H2, D2, lo, K2, R2⟩ := K1.ln (R.ref 0) hL N1
          refine ⟨k2, ?_, K2.fin R2 ((lo 0 (by omega)).trans (upZ_self _ _ _))⟩
          unfold FX7_letter
          rw [mo_zo K.mo0, zsn]
          simp only [zJn]
          rw [isLet7_t (by omega) (by omega), zsn, q0, if_neg (by decide), iZ_long (by omega) (by omega), l0, l4, in_t (by omega) (by omega) (by omega) (by omega) (by omega) (by omega) gz, zsn, if_neg (by decide), g1, zb2n, if_pos rfl, q3, if_pos (by rw [iZ_le (by omega) (by omega) (by omega) (by omega)]; omega), g2, zb2n, long7 H2 D2 hW hS]
          by_cases c : z = 3
          · rw [if_pos c, if_pos (by rw [c])]
          · rw [if_neg c, if_neg (by rw [iZ_eq (by omega) (by omega) (by omega) (by omega)]; exact c)]
    · obtain ⟨k1, g1, K1⟩ := S.no R (c := 2) (by omega) (by omega)
      refine rnd_ex (E := "java/lang/IllegalArgumentException") (h' := h) (c := 2) (by omega) ?_ ?_ ⟨0, k1, by omega, ?_, K1⟩
      · unfold FX6_letter
        rw [cs_zo S.cs0, zsn, chkLet_t (by omega) (by omega), zbx_ok, q0, q4, chkArg_f z1 z2 (by omega) (by omega) (by omega) (by omega) gz, zbx_er]
      · rw [if_neg (by decide), if_pos rfl, q2]
      · unfold FX7_letter
        rw [mo_zo S.mo0, zsn]
        simp only [zJn]
        rw [isLet7_t (by omega) (by omega), zsn, q0, if_neg (by decide), iZ_long z1 z2, l0, l4, in_f z1 z2 (by omega) (by omega) (by omega) (by omega) gz, zsn, if_pos rfl, q2, g1, zb2n, if_neg (by decide)]
  · obtain ⟨j1, g1, K1⟩ := S.no R (c := 1) (by omega) (by omega)
    refine rnd_ex (E := "java/lang/IndexOutOfBoundsException") (h' := h) (c := 1) (by omega) ?_ ?_ ⟨0, j1, by omega, ?_, K1⟩
    · unfold FX6_letter
      rw [cs_zo S.cs0, zsn, chkLet_f k1 k2 g, zbx_er]
    · rw [if_pos rfl, q1]
    · unfold FX7_letter
      rw [mo_zo S.mo0, zsn]
      simp only [zJn]
      rw [isLet7_f k1 k2 g, zsn, q0, if_pos rfl, q1, g1, zb2n, if_neg (by decide)]
theorem q8' : (8 : Int32) = iZ 8 := rfl
theorem c_about (S : St T h b o n tx d cnt nxt dd fl ds fs v tx7 r D kp kb x) (R : Rel n tx d cnt nxt dd fl ds fs v tx7 r D kp kb) {z : Int} (z1 : -2147483648 ≤ z) (z2 : z < 2147483648) : Rnd T b o (FL_about T b (iZ z) o h) (FX7_about T (b + 354) (iZ z)) := by
  have hO := R.2.1.1
  have B := S.bs R
  unfold FL_about
  by_cases g : 0 ≤ z ∧ z ≤ 9
  · by_cases g8 : z ≤ 7
    · refine rnd_ok (val := aval d z) (aval_in hO g) (about6_eq B g.1 g8) S (fun k K => ?_)
      obtain ⟨k2, e2, B2, f2⟩ := about7_eq (K.bs R) g.1 g.2
      exact ⟨k2, e2, fin_mo K R B2.2.2.2.1 f2 (upZ_self _ _ _) (upZ_ne _ _ (by decide)) (upZ_ne _ _ (by decide))⟩
    · obtain ⟨L, eL⟩ : ∃ L : Nat, z - 8 = L := ⟨(z - 8).toNat, by omega⟩
      have hL : L < 2 := by omega
      obtain ⟨h', w0, e, R1, S1, N1⟩ := S.rp hO hL
      have ew := wall_marks hO hL N1
      have ea : aval d z = wall d L (d 3 L) w0 (nL d (d 3 L)) 0 1 := by
        rw [ew, show (8 : Int) + L = z from by omega]
        unfold aval
        rw [if_neg (by omega), if_neg (by omega), if_neg (by omega), if_neg (by omega), if_neg (by omega), if_neg (by omega), if_neg (by omega), if_neg (by omega)]
      refine rnd_ok (h' := h') (val := aval d z) (aval_in hO g) ?_ S1 (fun k K => ?_)
      · unfold FX6_about
        rw [cs_zo S.cs0, zsn, q0, q9, chkArg_t (by omega) (by omega) g, zbx_ok, q1, q2, q3, q4, q5, q6, q7, q8]
        have ne : ∀ m : Int, -100 ≤ m → m ≤ 7 → ¬ (iZ z = iZ m) := fun m m1 m2 => by rw [iZ_eq (by omega) (by omega) (by omega) (by omega)]; omega
        rw [if_neg (ne _ (by omega) (by omega)), if_neg (ne _ (by omega) (by omega)), if_neg (ne _ (by omega) (by omega)), if_neg (ne _ (by omega) (by omega)), if_neg (ne _ (by omega) (by omega)), if_neg (ne _ (by omega) (by omega)), if_neg (ne _ (by omega) (by omega)), if_neg (ne _ (by omega) (by omega)), iZ_sub, eL, e, zb2n, cs_r8 S1.cs0, zsn, rd_g1 R1, zsn, ea]
      · obtain ⟨k2, e2, B2, f2⟩ := about7_eq (K.bs R) g.1 g.2
        exact ⟨k2, e2, fin_mo K R B2.2.2.2.1 f2 (upZ_self _ _ _) (upZ_ne _ _ (by decide)) (upZ_ne _ _ (by decide))⟩
  · obtain ⟨k1, g1, K1⟩ := S.no R (c := 1) (by omega) (by omega)
    refine rnd_ex (E := "java/lang/IllegalArgumentException") (h' := h) (c := 1) (by omega) ?_ ?_ ⟨0, k1, by omega, ?_, K1⟩
    · unfold FX6_about
      rw [cs_zo S.cs0, zsn, q0, q9, chkArg_f z1 z2 (by omega) (by omega) (by omega) (by omega) g, zbx_er]
    · rw [if_pos rfl, q1]
    · unfold FX7_about
      rw [mo_zo S.mo0, zsn]
      simp only [zJn]
      rw [iZ_long z1 z2, l0, l9, in_f z1 z2 (by omega) (by omega) (by omega) (by omega) g, zsn, q0, if_pos rfl, q1, g1, zb2n, if_neg (by decide)]
end C2
