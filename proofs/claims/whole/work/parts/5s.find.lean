/-! call: find, as a whole -/
section Fj
variable {T : zT} {h : zH} {b o : Nat} {n : Int} {tx : Nat → Int} {d : Nat → Nat → Int} {cnt nxt : Int} {dd : Nat → Nat → Nat → Int} {fl : Nat → Int} {ds : Nat → Nat → Nat → Int} {fs v tx7 r D kp kb : Nat → Int} {x : Int64}
theorem begins7 {m a : Nat} {bg sg wo : Nat → Int} {w : Nat → Nat → Int} (H : WH T h m a r v bg sg wo) (hD : Wds w v bg sg wo) (oW : RdOk w 81) (sW : SO w) (gW : SgIn w) {i z : Int} (i1 : 0 ≤ i) (i2 : i < w 0 0) {q : Nat} (q1' : 1 ≤ q) (q2' : q ≤ 8) (z1 : 0 ≤ z) (z2 : z < 9223372036854775808) : FX7_beginsWith T m (iZ i) (iZ q) (lZ z) h = some (iZ (ind (BWd w i z q))) := by
  have lw := wlen_le sW oW i1 i2
  have iw := wlen_in sW oW i1 i2
  have w5 : w 0 5 ≤ 81 := oW.2.2.2.2.2.1
  have w0 := oW.2.1
  have hl := wds_len hD i1 i2
  have hb : bg i.toNat = w 3 i.toNat := hD.2.2.1 _ (by omega)
  have za : zai T h (m + 10) (iZ (i + 1)) = some (iZ (bg (i + 1).toNat)) := zai_Arr H.2.1 (by omega) (by omega) (by omega)
  have zb : zai T h (m + 10) (iZ i) = some (iZ (bg i.toNat)) := zai_Arr H.2.1 (by omega) (by omega) (by omega)
  unfold FX7_beginsWith
  rw [mo_zo H.1, zsn]
  simp only [zJn]
  rw [mo_r13 H.1, zsn, q1, iZ_add, za, zsn, zsn, zb, zsn, iZ_sub, hl, q0]
  by_cases g : wlen w i < q
  · have hn : ¬ BWd w i z q := fun c => by
      have e := c (wlen w i).toNat (by omega)
      have a2 := Int.emod_nonneg (z / p100 (q - 1 - (wlen w i).toNat)) (show (100 : Int) ≠ 0 by omega)
      rw [show wsg w i ((wlen w i).toNat : Nat) = -9 from if_neg (by omega)] at e
      omega
    rw [if_pos (by rw [iZ_lt (by omega) (by omega) (by omega) (by omega)]; exact g), ind_f hn, show FUEL = 9999 + 1 from rfl, LX7_beginsWith_29.eq_2, if_neg (by rw [iZ_le (by omega) (by omega) (by omega) (by omega)]; omega), q0, if_pos rfl, if_pos (Or.inl rfl)]
  rw [if_neg (by rw [iZ_lt (by omega) (by omega) (by omega) (by omega)]; exact g)]
  have step : ∀ (k t : Nat) (K : Int32 → Option Int32), t < q → LX7_beginsWith_29 T h m (iZ i) (iZ q) (lZ z) K (k + 1) (iZ 1) (iZ t) = if wsg w i t = z / p100 (q - 1 - t) % 100 then LX7_beginsWith_29 T h m (iZ i) (iZ q) (lZ z) K k (iZ 1) (iZ ((t : Int) + 1)) else LX7_beginsWith_29 T h m (iZ i) (iZ q) (lZ z) K k (iZ 0) (iZ ((t : Int) + 1)) := fun k t K ht => by
    have h0 := p100_in (n := q - 1 - t) (by omega)
    have h1 : 0 ≤ z / p100 (q - 1 - t) := Int.ediv_nonneg z1 (by omega)
    have h2 : z / p100 (q - 1 - t) ≤ z := Int.ediv_le_self _ z1
    have a1 := wsg_sm (p := (t : Int)) sW oW gW i1 i2
    have ew : wsg w i t = sg (bg i.toNat + t).toNat := by
      unfold wsg
      rw [if_pos ⟨by omega, by omega⟩, hb, hD.2.2.2.2.1 _ (by omega)]
    have z3 : zai T h (m + 11) (iZ (bg i.toNat + t)) = some (iZ (wsg w i t)) := by rw [ew]; exact zai_Arr H.2.2.1 (by omega) (by omega) (by omega)
    have epw : FX7_power T (iZ ((q : Int) - 1 - t)) h = some (lZ (p100 (q - 1 - t))) := by
      rw [show (q : Int) - 1 - t = ((q - 1 - t : Nat) : Int) from by omega]
      exact power_eq (by omega)
    rw [LX7_beginsWith_29.eq_2, if_neg (by rw [iZ_le (by omega) (by omega) (by omega) (by omega)]; omega), q0, if_neg (by decide)]
    simp only [zJn]
    rw [mo_r14 H.1, zsn, mo_r13 H.1, zsn, zb, zsn, iZ_add, z3, zsn, q1, iZ_sub, iZ_sub, epw, zsn, zdivL_lZ z1 z2 (by omega) (by omega), zsn, l100, zremL_lZ h1 (by omega) (by omega) (by omega), zsn, iZ_add, iZ_long (by omega) (by omega)]
    by_cases c : wsg w i t = z / p100 (q - 1 - t) % 100
    · rw [if_pos (by rw [← q0, lg_eq0, c]), if_pos c]
    · rw [if_neg (by rw [← q0, lg_eq0, lZ_eq (by omega) (by omega) (by omega) (by omega)]; exact c), if_neg c]
  have key : ∀ (p t k : Nat) (K : Int32 → Option Int32), t + p = q → p + 2 < k → LX7_beginsWith_29 T h m (iZ i) (iZ q) (lZ z) K k (iZ 1) (iZ t) = K (iZ (ind (∀ s : Nat, t ≤ s → s < q → wsg w i s = z / p100 (q - 1 - s) % 100))) := by
    intro p
    induction p with
    | zero =>
      intro t k K h1 h2
      obtain ⟨k, rfl⟩ : ∃ u, k = u + 1 := ⟨k - 1, by omega⟩
      have e : t = q := by omega
      rw [LX7_beginsWith_29.eq_2, e, if_pos (by exact Int32.le_refl _), ind_t (fun s s1 s2 => by omega)]
    | succ p ih =>
      intro t k K h1 h2
      obtain ⟨k, rfl⟩ : ∃ u, k = u + 1 := ⟨k - 1, by omega⟩
      rw [step k t K (by omega)]
      by_cases c : wsg w i t = z / p100 (q - 1 - t) % 100
      · have hi := ih (t + 1) k K (by omega) (by omega)
        rw [show ((t + 1 : Nat) : Int) = (t : Int) + 1 from rfl] at hi
        rw [if_pos c, hi]
        by_cases c2 : ∀ s : Nat, t + 1 ≤ s → s < q → wsg w i s = z / p100 (q - 1 - s) % 100
        · rw [ind_t c2, ind_t (fun s s1 s2 => by
            by_cases c3 : s = t
            · rw [c3]; exact c
            · exact c2 s (by omega) s2)]
        · rw [ind_f c2, ind_f (fun w => c2 (fun s s1 s2 => w s (by omega) s2))]
      · obtain ⟨k, rfl⟩ : ∃ u, k = u + 1 := ⟨k - 1, by omega⟩
        rw [if_neg c, ind_f (fun w => c (w t (by omega) (by omega))), LX7_beginsWith_29.eq_2, q0, if_pos (show iZ 0 = iZ 0 from rfl)]
        by_cases c2 : iZ (q : Int) ≤ iZ ((t : Int) + 1)
        · rw [if_pos c2]
        · rw [if_neg c2]
  have e := key q 0 FUEL (fun (x20 : Int32) => if x20 = iZ 0 ∨ x20 = iZ 1 then some x20 else none) (by omega) (by unfold FUEL; omega)
  refine Eq.trans (show _ = _ from e) ?_
  have ei : (∀ s : Nat, 0 ≤ s → s < q → wsg w i s = z / p100 (q - 1 - s) % 100) ↔ BWd w i z q := ⟨fun w t ht => w t (by omega) ht, fun w s _ hs => w s hs⟩
  by_cases c : BWd w i z q
  · rw [ind_t (ei.mpr c), ind_t c, if_pos (Or.inr rfl)]
  · rw [ind_f (fun w => c (ei.mp w)), ind_f c, if_pos (Or.inl rfl)]
/-- the first word for which something holds; -9 where there is none -/
def isFirst (P : Nat → Prop) (m : Nat) (z : Int) : Prop := (∃ i : Nat, z = i ∧ i < m ∧ P i ∧ ∀ j, j < i → ¬ P j) ∨ (z = -9 ∧ ∀ i, i < m → ¬ P i)
theorem isFirst_eq {P : Nat → Prop} {m : Nat} {y z : Int} (a : isFirst P m y) (c : isFirst P m z) : y = z := by
  rcases a with ⟨i, e, i1, i2, i3⟩ | ⟨e, i1⟩
  · rcases c with ⟨j, e', j1, j2, j3⟩ | ⟨e', j1⟩
    · have h1 : ¬ j < i := fun w => i3 j w j2
      have h2 : ¬ i < j := fun w => j3 i w i2
      rw [e, e']
      omega
    · exact absurd i2 (j1 i i1)
  · rcases c with ⟨j, e', j1, j2, j3⟩ | ⟨e', j1⟩
    · exact absurd j2 (i1 j j1)
    · rw [e, e']
theorem find6 {w : Nat → Nat → Int} {wn : Nat → Int} (hC : CsAt h b n) (hV : RdAt T h (b + 336) w) (oW : RdOk w 81) (sW : SO w) (gW : SgIn w) (hB : Num T h (b + 350) 8 wn) {m : Nat} (m2 : m ≤ 8) {z : Int} (hw : ∀ t : Nat, t < m → wn (m - 1 - t) = z / p100 t % 100) {ρ : Type} (K0 : Int32 → Option ρ) (K1 : Unit → Option ρ) (hK : K1 () = K0 (iZ (-9))) : ∃ y, isFirst (fun i => BWd w i z m) (w 0 0).toNat y ∧ LX6_find_39 T h b (iZ m) K0 K1 FUEL (iZ 0) = K0 (iZ y) := by
  have w0 := oW.1
  have w1 := oW.2.1
  refine Or.elim (loop_find (L := LX6_find_39 T h b (iZ m) K0 K1) (K0 := fun i => K0 (iZ i)) (K1 := K1 ()) (P := fun i => BWd w i z m) (n := (w 0 0).toNat) (by omega) (fun k t ht => ?_) (fun k => ?_)) ?_ ?_
  · have a := begins6 hV oW sW gW (i := t) (z := z) (by omega) (by omega) hB m2 hw
    by_cases ce : BWd w t z m
    · refine Or.inl ⟨ce, ?_⟩
      rw [LX6_find_39.eq_2, cs_r8 hC, zsn, rd_g0 hV, zsn, if_neg (by rw [iZ_le (by omega) (by omega) (by omega) (by omega)]; omega), zsn, cs_r10 hC, zsn, a, zsn, ind_t ce, q0, if_neg (by decide)]
    · refine Or.inr ⟨ce, ?_⟩
      rw [LX6_find_39.eq_2, cs_r8 hC, zsn, rd_g0 hV, zsn, if_neg (by rw [iZ_le (by omega) (by omega) (by omega) (by omega)]; omega), zsn, cs_r10 hC, zsn, a, zsn, ind_f ce, q0, if_pos rfl, q1, iZ_add]
  · rw [LX6_find_39.eq_2, cs_r8 hC, zsn, rd_g0 hV, zsn, if_pos (by rw [iZ_le (by omega) (by omega) (by omega) (by omega)]; omega)]
  · rintro ⟨t, t1, t2, t3, e⟩
    exact ⟨t, Or.inl ⟨t, rfl, t1, t2, t3⟩, e⟩
  · rintro ⟨t1, e⟩
    exact ⟨-9, Or.inr ⟨rfl, t1⟩, e.trans hK⟩
theorem find7 {m a : Nat} {bg sg wo : Nat → Int} {w : Nat → Nat → Int} (H : WH T h m a r v bg sg wo) (hD : Wds w v bg sg wo) (oW : RdOk w 81) (sW : SO w) (gW : SgIn w) {z : Int} {q : Nat} (q1' : 1 ≤ q) (q2' : q ≤ 8) (z1 : 0 ≤ z) (z2 : z < 9223372036854775808) {ρ : Type} (K0 : Int32 → Option ρ) (K1 : Unit → Option ρ) (hK : K1 () = K0 (iZ (-9))) : ∃ y, isFirst (fun i => BWd w i z q) (w 0 0).toNat y ∧ LX7_find_43 T h m (iZ q) (lZ z) (iZ (w 0 0)) K0 K1 FUEL (iZ 0) = K0 (iZ y) := by
  have w0 := oW.1
  have w1 := oW.2.1
  refine Or.elim (loop_find (L := LX7_find_43 T h m (iZ q) (lZ z) (iZ (w 0 0)) K0 K1) (K0 := fun i => K0 (iZ i)) (K1 := K1 ()) (P := fun i => BWd w i z q) (n := (w 0 0).toNat) (by omega) (fun k t ht => ?_) (fun k => ?_)) ?_ ?_
  · have a := begins7 H hD oW sW gW (i := t) (by omega) (by omega) q1' q2' z1 z2
    by_cases ce : BWd w t z q
    · refine Or.inl ⟨ce, ?_⟩
      rw [LX7_find_43.eq_2, if_neg (by rw [iZ_le (by omega) (by omega) (by omega) (by omega)]; omega), a, zsn, ind_t ce, q0, if_neg (by decide)]
    · refine Or.inr ⟨ce, ?_⟩
      rw [LX7_find_43.eq_2, if_neg (by rw [iZ_le (by omega) (by omega) (by omega) (by omega)]; omega), a, zsn, ind_f ce, q0, if_pos rfl, q1, iZ_add]
  · rw [LX7_find_43.eq_2, if_pos (by rw [iZ_le (by omega) (by omega) (by omega) (by omega)]; omega)]
  · rintro ⟨t, t1, t2, t3, e⟩
    exact ⟨t, Or.inl ⟨t, rfl, t1, t2, t3⟩, e⟩
  · rintro ⟨t1, e⟩
    exact ⟨-9, Or.inr ⟨rfl, t1⟩, e.trans hK⟩
theorem areS7_no {p : Int} (p1 : -2147483648 ≤ p) (p2 : p < 2147483648) (g : ¬ (1 ≤ p ∧ p ≤ 8)) (y : Int64) : FX7_areSigns T (iZ p) y h = some (iZ 0) := by
  unfold FX7_areSigns
  simp only [zJn]
  rw [iZ_long p1 p2, l1, l8, in_f p1 p2 (by omega) (by omega) (by omega) (by omega) g, zsn, q0, if_pos rfl, show FUEL = 9999 + 1 from rfl, LX7_areSigns_38.eq_2]
  by_cases c : iZ p ≤ iZ 0
  · rw [if_pos c, if_pos (Or.inl rfl)]
  · rw [if_neg c, if_pos (show iZ 0 = 0 from rfl), if_pos (Or.inl rfl)]
theorem c_find (S : St T h b o n tx d cnt nxt dd fl ds fs v tx7 r D kp kb x) (R : Rel n tx d cnt nxt dd fl ds fs v tx7 r D kp kb) (y : Int64) {k p : Int} (k1 : -2147483648 ≤ k) (k2 : k < 2147483648) (p1 : -2147483648 ≤ p) (p2 : p < 2147483648) : Rnd T b o (FL_find T b (iZ k) (iZ p) y o h) (FX7_find T (b + 354) (iZ k) (iZ p) y) := by
  have hO := R.2.1.1
  have hP := R.2.1.2
  unfold FL_find
  by_cases g : 0 ≤ k ∧ k < 2
  case neg =>
    obtain ⟨j1, g1, J1⟩ := S.no R (c := 1) (by omega) (by omega)
    refine rnd_ex (E := "java/lang/IndexOutOfBoundsException") (h' := h) (c := 1) (by omega) ?_ ?_ ⟨0, j1, by omega, ?_, J1⟩
    · unfold FX6_find
      rw [cs_zo S.cs0, zsn, chkLet_f k1 k2 g, zbx_er]
    · rw [if_pos rfl, q1]
    · unfold FX7_find
      rw [mo_zo S.mo0, zsn]
      simp only [zJn]
      rw [isLet7_f k1 k2 g, zsn, q0, if_pos rfl, q1, g1, zb2n, if_neg (by decide)]
  obtain ⟨L, rfl⟩ : ∃ L : Nat, k = L := ⟨k.toNat, by omega⟩
  have hL : L < 2 := by omega
  by_cases gp : 1 ≤ p ∧ p ≤ 8
  case neg =>
    obtain ⟨j1, g1, J1⟩ := S.no R (c := 2) (by omega) (by omega)
    refine rnd_ex (E := "java/lang/IllegalArgumentException") (h' := h) (c := 2) (by omega) ?_ ?_ ⟨0, j1, by omega, ?_, J1⟩
    · unfold FX6_find
      rw [cs_zo S.cs0, zsn, chkLet_t (by omega) (by omega), zbx_ok, q1, q8, chkArg_f p1 p2 (by omega) (by omega) (by omega) (by omega) gp, zbx_er]
    · rw [if_neg (by decide), if_pos rfl, q2]
    · unfold FX7_find
      rw [mo_zo S.mo0, zsn]
      simp only [zJn]
      rw [isLet7_t (by omega) (by omega), zsn, q0, if_neg (by decide), areS7_no p1 p2 gp, zsn, if_pos rfl, q2, g1, zb2n, if_neg (by decide)]
  obtain ⟨m, rfl⟩ : ∃ m : Nat, p = m := ⟨p.toNat, by omega⟩
  obtain ⟨h1, wn, e1, B1, ew, S1⟩ := split6 S (m := m) (by omega) (by omega) y
  have ylo : -9223372036854775808 ≤ y.toInt := y.le_toInt
  have yhi : y.toInt < 9223372036854775808 := y.toInt_lt
  have hp := p100_in (n := m) (by omega)
  have e7 : ∀ q, FX7_areSigns T (iZ m) y q = some (iZ (ind ((0 ≤ y.toInt ∧ y.toInt ≤ p100 m - 1) ∧ ∀ t : Nat, t < m → ¬ 26 < y.toInt / p100 t % 100))) := fun q => by
    have e := areS7 (T := T) (h := q) (m := m) (by omega) (by omega) ylo yhi
    rw [lZ_of] at e
    exact e
  by_cases gs : (0 ≤ y.toInt ∧ y.toInt ≤ p100 m - 1) ∧ ∀ t : Nat, t < m → ¬ 26 < y.toInt / p100 t % 100
  case neg =>
    have hn : ¬ (0 ≤ y.toInt ∧ rI y m = 0 ∧ ∀ t : Nat, t < m → ¬ 26 < pI y t) := fun w => by
      obtain ⟨w1, w2, w3⟩ := w
      have ez := rI_eq w1 yhi m
      rw [lZ_of, w2] at ez
      have h1' : 0 ≤ y.toInt / p100 m := Int.ediv_nonneg w1 (by omega)
      have h2' : y.toInt / p100 m ≤ y.toInt := Int.ediv_le_self _ w1
      have e0 : y.toInt / p100 m = 0 := by
        have := (lZ_eq (a := 0) (b := y.toInt / p100 m) (by omega) (by omega) (by omega) (by omega)).mp ez
        omega
      refine gs ⟨⟨w1, ?_⟩, fun t ht => ?_⟩
      · have e2 := Int.emod_lt_of_pos y.toInt (show 0 < p100 m by omega)
        have e3 := Int.emod_add_mul_ediv y.toInt (p100 m)
        rw [e0, Int.mul_zero] at e3
        omega
      · have e2 := (pI_eq w1 yhi t).1
        rw [lZ_of] at e2
        rw [← e2]
        exact w3 t ht
    rw [ind_f hn] at e1
    obtain ⟨j1, g1, J1⟩ := S1.no R (c := 2) (by omega) (by omega)
    refine rnd_ex (E := "java/lang/IllegalArgumentException") (h' := h1) (c := 2) (by omega) ?_ ?_ ⟨0, j1, by omega, ?_, J1⟩
    · unfold FX6_find
      rw [cs_zo S.cs0, zsn, chkLet_t (by omega) (by omega), zbx_ok, q1, q8, chkArg_t (by omega) (by omega) gp, zbx_ok, e1, zb2n, q0, if_pos rfl]
    · rw [if_neg (by decide), if_pos rfl, q2]
    · unfold FX7_find
      rw [mo_zo S1.mo0, zsn]
      simp only [zJn]
      rw [isLet7_t (by omega) (by omega), zsn, q0, if_neg (by decide), e7, zsn, ind_f gs, if_pos rfl, q2, g1, zb2n, if_neg (by decide)]
  obtain ⟨⟨y1, y2⟩, y3⟩ := gs
  have hy : 0 ≤ y.toInt ∧ rI y m = 0 ∧ ∀ t : Nat, t < m → ¬ 26 < pI y t := by
    have e0 : y.toInt / p100 m = 0 := Int.ediv_eq_zero_of_lt y1 (by omega)
    refine ⟨y1, ?_, fun t ht => ?_⟩
    · have ez := rI_eq y1 yhi m
      rw [lZ_of, e0] at ez
      exact ez
    · have e2 := (pI_eq y1 yhi t).1
      rw [lZ_of] at e2
      rw [e2]
      exact y3 t ht
  rw [ind_t hy] at e1
  have hw : ∀ t : Nat, t < m → wn (m - 1 - t) = y.toInt / p100 t % 100 := fun t ht => by
    have e2 := (pI_eq y1 yhi t).1
    rw [lZ_of] at e2
    rw [ew t ht, e2]
  obtain ⟨h2, w0, e2, R2, S2, N2⟩ := S1.rp hO hL
  have A2 : ∃ f, Num T h2 (b + 350) 8 f := S2.2.2.1 5 (by omega)
  have B2 : Num T h2 (b + 350) 8 wn := by
    have Q3 : ∃ w, RdAt T h1 (b + 336) w ∧ RdIn w := S1.2.2.1 3 (by omega)
    obtain ⟨w, hR, hI⟩ := Q3
    obtain ⟨hh, w0', q, RR, ff, NN⟩ := readPresent_eq (S1.bs R) hR hI hL
    rw [e2] at q
    have e9 : h2 = hh := by injection q with q; injection q
    rw [e9]
    exact B1.kept (ff _ (by omega)) (ff _ (by omega))
  have oW := rdok (L := L) hO N2
  have sW := rdso (L := L) hO N2
  have gW := rdsg (L := L) hO N2
  obtain ⟨z6, i6, f6⟩ := find6 (T := T) S2.cs0 R2 oW sW gW B2 (m := m) (by omega) hw (fun (x23 : Int32) => some (Except.ok (ε := String) x23, h2)) (fun (u9 : Unit) => some (Except.ok (ε := String) (iZ (-9)), h2)) rfl
  have hz : -9 ≤ z6 ∧ z6 ≤ 81 := by
    have := oW.2.1
    rcases i6 with ⟨i, e, i1, -, -⟩ | ⟨e, -⟩ <;> omega
  refine rnd_ok (h' := h2) (val := z6) (by omega) ?_ S2 (fun q K => ?_)
  · unfold FX6_find
    rw [cs_zo S.cs0, zsn, chkLet_t (by omega) (by omega), zbx_ok, q1, q8, chkArg_t (by omega) (by omega) gp, zbx_ok, e1, zb2n, q0, if_neg (by decide), e2, zb2n, qm9]
    exact f6
  · obtain ⟨k1', g1, K1⟩ := K.yes
    obtain ⟨k2', v', bg, sg, wo, g2, H2, D2, lo, K2, RR2⟩ := K1.ln (R.ref 0) hL N2
    obtain ⟨z7, i7, f7⟩ := find7 (T := T) H2 D2 oW sW gW (q := m) (by omega) (by omega) y1 yhi (fun (x18 : Int32) => some (x18, k2')) (fun (u9 : Unit) => some (iZ (-9), k2')) rfl
    rw [lZ_of] at f7
    rw [← isFirst_eq i6 i7] at f7
    refine ⟨k2', ?_, K2.fin RR2 ((lo 0 (by omega)).trans (upZ_self _ _ _))⟩
    unfold FX7_find
    rw [mo_zo K.mo0, zsn]
    simp only [zJn]
    rw [isLet7_t (by omega) (by omega), zsn, q0, if_neg (by decide), e7, zsn, ind_t ⟨⟨y1, y2⟩, y3⟩, if_neg (by decide), g1, zb2n, if_pos rfl, g2, zb2n, qm9]
    exact f7
end Fj
