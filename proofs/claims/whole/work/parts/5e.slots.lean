/-! calls: save, restore -/
section C8
variable {T : zT} {h : zH} {b o : Nat} {n : Int} {tx : Nat → Int} {d : Nat → Nat → Int} {cnt nxt : Int} {dd : Nat → Nat → Nat → Int} {fl : Nat → Int} {ds : Nat → Nat → Nat → Int} {fs v tx7 r D kp kb : Nat → Int} {x : Int64}
theorem zbs_B {a m : Nat} {f : Nat → Int} (hA : BAr T h a m f) {i y : Int} (h1 : 0 ≤ i) (h2 : i < m) (h3 : m < 2147483648) (hy : y = 0 ∨ y = 1) : ∃ h', zbs T h a (iZ i) (iZ y) = some h' ∧ BAr T h' a m (upZ f i.toNat y) ∧ ∀ q, q ≠ a → h' q = h q := by
  refine ⟨va_up h a (some (.inl (T.2.2.1, m, .inl (fun j => iZ (upZ f i.toNat y j))))), ?_, va_up_self _ _ _, fun q hq => va_up_ne _ _ hq⟩
  have e : vp_nar .boolean (iZ y) = iZ y := by
    rcases hy with rfl | rfl
    · decide
    · decide
  unfold zbs
  rw [hA]
  show (if T.2.2.1 = T.2.2.1 ∧ zin (iZ i) m then _ else _) = _
  rw [if_pos ⟨rfl, (iZ_in (by omega) (by omega)).mpr ⟨h1, h2⟩⟩, iZ_clamp (by omega) (by omega), e, upd_iZ]
theorem zbi_B {a m : Nat} {f : Nat → Int} (hA : BAr T h a m f) {i : Int} (h1 : 0 ≤ i) (h2 : i < m) (h3 : m < 2147483648) : zbi T h a (iZ i) = some (iZ (f i.toNat)) := by
  unfold zbi
  rw [hA]
  show (if T.2.2.1 = T.2.2.1 ∧ zin (iZ i) m then _ else _) = _
  rw [if_pos ⟨rfl, (iZ_in (by omega) (by omega)).mpr ⟨h1, h2⟩⟩, iZ_clamp (by omega) (by omega)]
theorem cnt_in {d : Nat → Nat → Int} (hO : OkD d) : 0 ≤ gsum d (cn d) ∧ gsum d (cn d) ≤ 81000 := gsum_in hO (f := cn d) (m := 2) (by omega) (by omega) (fun x y gg => hO.cn gg)
theorem gsum_same {d d' : Nat → Nat → Int} (hs : SameD d d') (hO : OkD d) : gsum d' (cn d') = gsum d (cn d) := by
  obtain ⟨w1, w2, w3, w4⟩ := hO.wh
  unfold gsum
  rw [hs.1 0 (by omega), hs.1 1 (by omega)]
  exact zsum_congr _ (fun i hi => zsum_congr _ (fun j hj => same_cn hs hO ⟨by omega, by omega, by omega, by omega⟩))
theorem c_save (S : St T h b o n tx d cnt nxt dd fl ds fs v tx7 r D kp kb x) (R : Rel n tx d cnt nxt dd fl ds fs v tx7 r D kp kb) {z : Int} (z1 : -2147483648 ≤ z) (z2 : z < 2147483648) : Rnd T b o (FL_save T b (iZ z) o h) (FX7_save T (b + 354) (iZ z)) := by
  have hO := R.2.1.1
  have hP := R.2.1.2
  have hc := cnt_in hO
  unfold FL_save
  by_cases g : 0 ≤ z ∧ z < 2
  case neg =>
    have g' : ¬ (0 ≤ z ∧ z ≤ 1) := by omega
    obtain ⟨j1, g1, J1⟩ := S.no R (c := 1) (by omega) (by omega)
    refine rnd_ex (E := "java/lang/IndexOutOfBoundsException") (h' := h) (c := 1) (by omega) ?_ ?_ ⟨0, j1, by omega, ?_, J1⟩
    · unfold FX6_save
      rw [cs_zo S.cs0, zsn, chkSlot_f z1 z2 g, zbx_er]
    · rw [if_pos rfl, q1]
    · unfold FX7_save
      rw [mo_zo S.mo0, zsn]
      simp only [zJn]
      rw [iZ_long z1 z2, l0, l1, in_f z1 z2 (by omega) (by omega) (by omega) (by omega) g', zsn, q0, if_pos rfl, q1, g1, zb2n, if_neg (by decide)]
  obtain ⟨i, rfl⟩ : ∃ i : Nat, z = i := ⟨z.toNat, by omega⟩
  obtain ⟨h1, d1, e1, F1, hs, f1⟩ := store_eq S.sf0 (by omega) (i := i) g.1 (by omega) S.sh0 (by omega)
  have S1 := S.slots F1 f1
  refine rnd_ok (val := gsum d (cn d)) (by omega) ?_ S1 (fun q K => ?_)
  · unfold FX6_save
    rw [cs_zo S.cs0, zsn, chkSlot_t g.1 g.2, zbx_ok, cs_r7 S.cs0, zsn, cs_r3 S.cs0, zsn, e1, zsn, cs_r3 S1.cs0, zsn, countMarks_eq S1.sh0 hO, zsn]
  · obtain ⟨k1, g1, K1⟩ := K.yes
    obtain ⟨k2, g2, B2, f2⟩ := zbs_B (i := i) (y := 1) K1.kb0 g.1 (by omega) (by omega) (Or.inr rfl)
    have K2 := K1.skb B2 f2
    obtain ⟨k3, g3, A3, f3⟩ := copy_eq (p := 0) (q := 739 * i) K2.pg0 K2.kp0 (by omega) (by omega) (by omega) (by omega) (by omega)
    have K3 := K2.skp A3 f3
    obtain ⟨a1, a2, a3, a8⟩ := R
    refine ⟨k3, ?_, K3.fin (Rel.vv (v := v) ⟨a1, a2, a3, fun t ht => ?_⟩ (upZ_ne _ _ (by decide)) (upZ_ne _ _ (by decide))) (upZ_self _ _ _)⟩
    · have hm : FX7_marksOf T (b + 354 + 3) k3 = some (iZ (gsum d (cn d))) := marksOf_eq K3.pg0 hP.1 hO
      unfold FX7_save
      rw [mo_zo K.mo0, zsn]
      simp only [zJn]
      rw [iZ_long (by omega) (by omega), l0, l1, in_t (by omega) (by omega) (by omega) (by omega) (by omega) (by omega) (by omega), zsn, q0, if_neg (by decide), g1, zb2n, if_pos rfl, mo_r11 K1.mo0, zsn, q1, g2, zsn, mo_r5 K2.mo0, zsn, mo_r10 K2.mo0, zsn, q739, iZ_mul, show 739 * (i : Int) = ((739 * i : Nat) : Int) from by omega, show FX7_copyPage T (b + 354 + 3) (iZ 0) (b + 354 + 7) (iZ ((739 * i : Nat) : Int)) k2 = some k3 from g3, zsn, mo_r5 K3.mo0, zsn, hm, zsn]
    · have et : (i : Int).toNat = i := rfl
      rw [et]
      by_cases c : t = i
      · subst c
        rw [upZ_self, upZ_self]
        refine ⟨Or.inr rfl, rfl, fun _ => ?_⟩
        rw [show ddup ds t d1 t = d1 from if_pos rfl]
        refine ⟨OkD_same hs hO, Pg_same hs hO hP (fun j hj => ?_)⟩
        unfold cpy
        rw [if_pos (by omega)]
        congr 1
        omega
      · obtain ⟨b1, b2, b3⟩ := a8 t ht
        rw [upZ_ne _ _ c, upZ_ne _ _ c]
        refine ⟨b1, b2, fun w => ?_⟩
        obtain ⟨b4, b5⟩ := b3 w
        rw [show ddup ds i d1 t = ds t from if_neg c]
        refine ⟨b4, Pg_same (SameD.refl _) b4 b5 (fun j hj => ?_)⟩
        unfold cpy
        rw [if_neg (by omega)]
theorem c_restore (S : St T h b o n tx d cnt nxt dd fl ds fs v tx7 r D kp kb x) (R : Rel n tx d cnt nxt dd fl ds fs v tx7 r D kp kb) {z : Int} (z1 : -2147483648 ≤ z) (z2 : z < 2147483648) : Rnd T b o (FL_restore T b (iZ z) o h) (FX7_restore T (b + 354) (iZ z)) := by
  have hO := R.2.1.1
  have hP := R.2.1.2
  unfold FL_restore
  by_cases g : 0 ≤ z ∧ z < 2
  case neg =>
    have g' : ¬ (0 ≤ z ∧ z ≤ 1) := by omega
    obtain ⟨j1, g1, J1⟩ := S.no R (c := 1) (by omega) (by omega)
    refine rnd_ex (E := "java/lang/IndexOutOfBoundsException") (h' := h) (c := 1) (by omega) ?_ ?_ ⟨0, j1, by omega, ?_, J1⟩
    · unfold FX6_restore
      rw [cs_zo S.cs0, zsn, chkSlot_f z1 z2 g, zbx_er]
    · rw [if_pos rfl, q1]
    · unfold FX7_restore
      rw [mo_zo S.mo0, zsn]
      simp only [zJn]
      rw [iZ_long z1 z2, l0, l1, in_f z1 z2 (by omega) (by omega) (by omega) (by omega) g', zsn, q0, if_pos rfl, q1, g1, zb2n, if_neg (by decide)]
  obtain ⟨i, rfl⟩ : ∃ i : Nat, z = i := ⟨z.toNat, by omega⟩
  obtain ⟨b1, b2, b3⟩ := R.2.2.2 i (by omega)
  have e6 : FX4_holds T (b + 298) (iZ i) h = some (iZ (fs i)) := holds_eq S.sf0 (by omega) g.1 (by omega) b1
  have e7 : ∀ q, St T q b o n tx d cnt nxt dd fl ds fs v tx7 r D kp kb x → zbi T q (b + 354 + 8) (iZ i) = some (iZ (fs i)) := fun q Q => by rw [← b2]; exact zbi_B Q.kb0 g.1 (by omega) (by omega)
  by_cases gf : fs i = 1
  case neg =>
    have gf0 : fs i = 0 := by omega
    obtain ⟨j1, g1, J1⟩ := S.no R (c := 2) (by omega) (by omega)
    refine rnd_ex (E := "java/lang/IllegalStateException") (h' := h) (c := 2) (by omega) ?_ ?_ ⟨0, j1, by omega, ?_, J1⟩
    · unfold FX6_restore
      rw [cs_zo S.cs0, zsn, chkSlot_t g.1 g.2, zbx_ok, cs_r7 S.cs0, zsn, e6, zsn, gf0, q0, if_pos rfl]
    · rw [if_neg (by decide), if_pos rfl, q2]
    · unfold FX7_restore
      rw [mo_zo S.mo0, zsn]
      simp only [zJn]
      rw [iZ_long z1 z2, l0, l1, in_t (by omega) (by omega) (by omega) (by omega) (by omega) (by omega) (by omega), zsn, q0, if_neg (by decide), mo_r11 S.mo0, zsn, e7 h S, zsn, gf0, if_pos rfl, q2, g1, zb2n, if_neg (by decide)]
  obtain ⟨p2, p3⟩ := b3 gf
  obtain ⟨h1, d1, e1, M1, hs, f1⟩ := fetch_eq S.sf0 (by omega) (i := i) g.1 (by omega) gf S.sh0 (by omega)
  have S1 := S.pres M1 f1
  obtain ⟨h2, e2, H2, f2⟩ := hs_s0 S1.hs0 0
  have S2 := S1.hist H2 (fun q hq => f2 q (by omega))
  have hOn := OkD_same hs p2
  have hc := cnt_in hOn
  refine rnd_ok (val := gsum d1 (cn d1)) (by omega) ?_ S2 (fun q K => ?_)
  · unfold FX6_restore FX0_forget
    rw [cs_zo S.cs0, zsn, chkSlot_t g.1 g.2, zbx_ok, cs_r7 S.cs0, zsn, e6, zsn, gf, q0, if_neg (by decide), zsn, cs_r3 S.cs0, zsn, e1, zsn, cs_r6 S1.cs0, zsn, hs_zo S1.hs0, zsn, e2, zsn, zsn, cs_r3 S2.cs0, zsn, countMarks_eq S2.sh0 hOn, zsn]
  · have e7q : zbi T q (b + 354 + 8) (iZ i) = some (iZ (fs i)) := by rw [← b2]; exact zbi_B K.kb0 g.1 (by omega) (by omega)
    obtain ⟨k1, g1, K1⟩ := K.yes
    obtain ⟨k3, g3, A3, f3⟩ := copy_eq (p := 739 * i) (q := 0) K1.kp0 K1.pg0 (by omega) (by omega) (by omega) (by omega) (by omega)
    have K3 := K1.page A3 f3
    obtain ⟨k4, g4, M4, f4⟩ := mo_set K3.mo0 (k := 9) (by omega) 0
    have K4 := K3.mo M4 f4
    have hPn : Pg d1 (cpy kp r (739 * i) 0 739) := Pg_same hs p2 p3 (fun j hj => by
      unfold cpy
      rw [if_pos (by omega)]
      congr 1)
    obtain ⟨⟨a1, a2, a3, a4⟩, -, ⟨-, ⟨c1, c2, c3, c4⟩, -⟩, a8⟩ := R
    refine ⟨k4, ?_, K4.fin ⟨⟨a1, a2, (by rw [upZ_ne _ _ (by decide), upZ_ne _ _ (by decide)]; exact a3), a4⟩, ⟨hOn, hPn⟩, ⟨upZ_self _ _ _, ⟨by omega, by omega, c3, c4⟩, fun t ht => by omega⟩, a8⟩ (by rw [upZ_ne _ _ (by decide), upZ_self])⟩
    have hm : FX7_marksOf T (b + 354 + 3) k4 = some (iZ (gsum d1 (cn d1))) := marksOf_eq K4.pg0 hPn.1 hOn
    unfold FX7_restore
    rw [mo_zo K.mo0, zsn]
    simp only [zJn]
    rw [iZ_long z1 z2, l0, l1, in_t (by omega) (by omega) (by omega) (by omega) (by omega) (by omega) (by omega), zsn, q0, if_neg (by decide), mo_r11 K.mo0, zsn, e7q, zsn, gf, if_neg (by decide), g1, zb2n, if_pos rfl, mo_r10 K1.mo0, zsn, mo_r5 K1.mo0, zsn, q739, iZ_mul, show 739 * (i : Int) = ((739 * i : Nat) : Int) from by omega, show FX7_copyPage T (b + 354 + 7) (iZ ((739 * i : Nat) : Int)) (b + 354 + 3) (iZ 0) k1 = some k3 from g3, zsn, g4, zsn, mo_r5 K4.mo0, zsn, hm, zsn]
end C8
