/-! the whole text; calls: errorPosition, load -/
section Tx
variable {T : zT} {h : zH} {b o : Nat} {n : Int} {tx : Nat → Int} {d : Nat → Nat → Int} {cnt nxt : Int} {dd : Nat → Nat → Nat → Int} {fl : Nat → Int} {ds : Nat → Nat → Nat → Int} {fs v tx7 r D kp kb : Nat → Int} {x : Int64}
variable {h' : zH} {t : Nat → Int} {e : Nat → Nat → Int}
theorem fresh2 {d' : Nat → Nat → Int} {W H9 : Int} (a : d' 0 0 = 6 ∧ d' 0 1 = 6 ∧ d' 0 2 = 2 ∧ d' 0 3 = 2 ∧ d' 1 0 = 0 ∧ d' 2 0 = 2 ∧ d' 3 0 = 0 ∧ d' 1 1 = 3 ∧ d' 2 1 = 6 ∧ d' 3 1 = 1) (z : ∀ j, j < 81 → d' 4 j = 0) : Fresh (dput (dput d' 0 0 W) 0 1 H9) W H9 := by
  obtain ⟨a1, a2, a3, a4, a5, a6, a7, a8, a9, a10⟩ := a
  exact ⟨⟨rfl, rfl, a3, a4, a5, a6, a7, a8, a9, a10⟩, z⟩
/-- what the reference does before it clears its page -/
theorem head7 (hT : ∀ j : Nat, (j : Int) < n → tx7 j = tx j ∧ 0 ≤ tx j ∧ tx j ≤ 255) (n2 : n ≤ 120) (n0 : 0 ≤ n) {p : Int} (g : (p = 0 ∧ ¬ (0 < n ∧ tx (0 : Int).toNat = 83)) ∨ (p = 1 ∧ (0 < n ∧ tx (0 : Int).toNat = 83) ∧ ¬ (1 < n ∧ 1 ≤ dg (tx (1 : Int).toNat) ∧ dg (tx (1 : Int).toNat) ≤ 9)) ∨ (p = 2 ∧ (0 < n ∧ tx (0 : Int).toNat = 83) ∧ (1 < n ∧ 1 ≤ dg (tx (1 : Int).toNat) ∧ dg (tx (1 : Int).toNat) ≤ 9) ∧ ¬ (2 < n ∧ 1 ≤ dg (tx (2 : Int).toNat) ∧ dg (tx (2 : Int).toNat) ≤ 9))) : ∀ (d : Nat → Nat → Int) (cnt nxt : Int) (dd : Nat → Nat → Nat → Int) (fl : Nat → Int) (ds : Nat → Nat → Nat → Int) (fs : Nat → Int) (k9 : zH) (v9 : Nat → Int) (x9 : Int64), St T k9 b o n tx d cnt nxt dd fl ds fs v9 tx7 r D kp kb x9 → v9 2 = n → ∃ k' v', FX7_readAll T (b + 354) k9 = some (iZ 0, k') ∧ St T k' b o n tx d cnt nxt dd fl ds fs v' tx7 r D kp kb x9 ∧ v' 3 = p ∧ (∀ j, j ≠ 3 → v' j = v9 j) := fun d cnt nxt dd fl ds fs k9 v9 x9 K kN => by
  obtain ⟨k1, e1, M1, p1⟩ := mo_set K.mo0 (k := 3) (by omega) 0
  have K1 := K.mo M1 p1
  have kN1 : upZ v9 3 0 2 = n := (upZ_ne _ _ (by decide)).trans kN
  rcases g with ⟨ep, g0⟩ | ⟨ep, g0, g1⟩ | ⟨ep, g0, g1, g2⟩
  · obtain ⟨k2, e2, K2, p2⟩ := eat_f K1 hT kN1 n2 (i := 0) (by omega) (by omega) (upZ_self _ _ _) (c := 83) (by omega) (by omega) g0
    refine ⟨k2, _, ?_, K2, (upZ_self _ _ _).trans ep.symm, fun j hj => (upZ_ne _ _ hj).trans (upZ_ne _ _ hj)⟩
    unfold FX7_readAll
    rw [mo_zo K.mo0, zsn, q0, e1, zsn, r83, e2, zb2n, if_pos rfl]
  · obtain ⟨k2, e2, K2, p2⟩ := eat_t K1 hT kN1 n2 (i := 0) (by omega) (by omega) (upZ_self _ _ _) (c := 83) (by omega) (by omega) g0
    obtain ⟨k3, e3, K3, p3⟩ := digit_f K2 hT ((upZ_ne _ _ (by decide)).trans kN1) n2 (i := 1) (by omega) (by omega) (upZ_self _ _ _) (lo := 1) (hi := 9) (by omega) (by omega) (by omega) (by omega) g1
    refine ⟨k3, _, ?_, K3, (upZ_self _ _ _).trans ep.symm, fun j hj => (upZ_ne _ _ hj).trans ((upZ_ne _ _ hj).trans (upZ_ne _ _ hj))⟩
    unfold FX7_readAll
    rw [mo_zo K.mo0, zsn, q0, e1, zsn, r83, e2, zb2n, if_neg (show ¬ iZ 1 = iZ 0 by decide)]
    simp only [zJn]
    rw [q1, q9, e3, zb2n, iZ_neg, if_pos rfl]
    (try (first | rw [if_pos rfl] | rw [if_pos trivial]))
  · obtain ⟨k2, e2, K2, p2⟩ := eat_t K1 hT kN1 n2 (i := 0) (by omega) (by omega) (upZ_self _ _ _) (c := 83) (by omega) (by omega) g0
    obtain ⟨k3, e3, K3, p3⟩ := digit_t K2 hT ((upZ_ne _ _ (by decide)).trans kN1) n2 (i := 1) (by omega) (by omega) (upZ_self _ _ _) (lo := 1) (hi := 9) (by omega) (by omega) (by omega) (by omega) g1
    obtain ⟨k4, e4, K4, p4⟩ := digit_f K3 hT ((upZ_ne _ _ (by decide)).trans ((upZ_ne _ _ (by decide)).trans kN1)) n2 (i := 2) (by omega) (by omega) (upZ_self _ _ _) (lo := 1) (hi := 9) (by omega) (by omega) (by omega) (by omega) g2
    refine ⟨k4, _, ?_, K4, (upZ_self _ _ _).trans ep.symm, fun j hj => (upZ_ne _ _ hj).trans ((upZ_ne _ _ hj).trans ((upZ_ne _ _ hj).trans (upZ_ne _ _ hj)))⟩
    unfold FX7_readAll
    rw [mo_zo K.mo0, zsn, q0, e1, zsn, r83, e2, zb2n, if_neg (show ¬ iZ 1 = iZ 0 by decide)]
    simp only [zJn]
    rw [q1, q9, e3, zb2n, iZ_neg, if_neg (by rw [iZ_eq (by omega) (by omega) (by omega) (by omega)]; omega), e4, zb2n, if_pos rfl]
theorem head7_go (hT : ∀ j : Nat, (j : Int) < n → tx7 j = tx j ∧ 0 ≤ tx j ∧ tx j ≤ 255) (n2 : n ≤ 120) (g0 : 0 < n ∧ tx (0 : Int).toNat = 83) (g1 : 1 < n ∧ 1 ≤ dg (tx (1 : Int).toNat) ∧ dg (tx (1 : Int).toNat) ≤ 9) (g2 : 2 < n ∧ 1 ≤ dg (tx (2 : Int).toNat) ∧ dg (tx (2 : Int).toNat) ≤ 9) : ∀ (d : Nat → Nat → Int) (cnt nxt : Int) (dd : Nat → Nat → Nat → Int) (fl : Nat → Int) (ds : Nat → Nat → Nat → Int) (fs : Nat → Int) (k9 : zH) (v9 : Nat → Int) (x9 : Int64), St T k9 b o n tx d cnt nxt dd fl ds fs v9 tx7 r D kp kb x9 → v9 2 = n → ∃ k' v' rt', FX7_readAll T (b + 354) k9 = LX7_readAll_60 T (b + 354) (fun (h19 : zH) => some (iZ 0, h19)) (fun (h20 : zH) => some (iZ 1, h20)) FUEL k' ∧ St T k' b o n tx d cnt nxt dd fl ds fs v' tx7 r D kp kb x9 ∧ v' 3 = 3 ∧ (∀ j, j ≠ 3 → v' j = v9 j) ∧ Arr T k' (b + 354 + 2) 739 rt' ∧ ∀ j, j < 739 → rt' j = clr (dg (tx (1 : Int).toNat)) (dg (tx (2 : Int).toNat)) j := fun d cnt nxt dd fl ds fs k9 v9 x9 K kN => by
  obtain ⟨k1, e1, M1, p1⟩ := mo_set K.mo0 (k := 3) (by omega) 0
  have K1 := K.mo M1 p1
  have kN1 : upZ v9 3 0 2 = n := (upZ_ne _ _ (by decide)).trans kN
  obtain ⟨k2, e2, K2, p2⟩ := eat_t K1 hT kN1 n2 (i := 0) (by omega) (by omega) (upZ_self _ _ _) (c := 83) (by omega) (by omega) g0
  obtain ⟨k3, e3, K3, p3⟩ := digit_t K2 hT ((upZ_ne _ _ (by decide)).trans kN1) n2 (i := 1) (by omega) (by omega) (upZ_self _ _ _) (lo := 1) (hi := 9) (by omega) (by omega) (by omega) (by omega) g1
  obtain ⟨k4, e4, K4, p4⟩ := digit_t K3 hT ((upZ_ne _ _ (by decide)).trans ((upZ_ne _ _ (by decide)).trans kN1)) n2 (i := 2) (by omega) (by omega) (upZ_self _ _ _) (lo := 1) (hi := 9) (by omega) (by omega) (by omega) (by omega) g2
  have A7 : ∃ f, Arr T k4 (b + 354 + 2) 739 f := K4.2.2.1 7 (by omega)
  obtain ⟨f7, F7⟩ := A7
  obtain ⟨k5, r5, e5, A5, c5, p5⟩ := clear_eq F7 (dg (tx (1 : Int).toNat)) (dg (tx (2 : Int).toNat))
  refine ⟨k5, _, r5, ?_, K4.read7 A5 p5, upZ_self _ _ _, fun j hj => (upZ_ne _ _ hj).trans ((upZ_ne _ _ hj).trans ((upZ_ne _ _ hj).trans (upZ_ne _ _ hj))), A5, c5⟩
  unfold FX7_readAll
  rw [mo_zo K.mo0, zsn, q0, e1, zsn, r83, e2, zb2n, if_neg (show ¬ iZ 1 = iZ 0 by decide)]
  simp only [zJn]
  rw [q1, q9, e3, zb2n, iZ_neg, if_neg (by rw [iZ_eq (by omega) (by omega) (by omega) (by omega)]; omega), e4, zb2n, if_neg (by rw [iZ_eq (by omega) (by omega) (by omega) (by omega)]; omega), mo_r4 K4.mo0, zsn, e5, zsn]
theorem text_all (S : St T h b o n tx d cnt nxt dd fl ds fs v tx7 r D kp kb x) (hT : ∀ j : Nat, (j : Int) < n → tx7 j = tx j ∧ 0 ≤ tx j ∧ tx j ≤ 255) (n2 : n ≤ 120) (n0 : 0 ≤ n) : (∃ p h', FX6_readText T b h = some (iZ p, h') ∧ (0 ≤ p ∧ p ≤ n) ∧ St T h' b o n tx d cnt nxt dd fl ds fs v tx7 r D kp kb x ∧ ∀ (d : Nat → Nat → Int) (cnt nxt : Int) (dd : Nat → Nat → Nat → Int) (fl : Nat → Int) (ds : Nat → Nat → Nat → Int) (fs : Nat → Int) (k9 : zH) (v9 : Nat → Int) (x9 : Int64), St T k9 b o n tx d cnt nxt dd fl ds fs v9 tx7 r D kp kb x9 → v9 2 = n → ∃ k' v', FX7_readAll T (b + 354) k9 = some (iZ 0, k') ∧ St T k' b o n tx d cnt nxt dd fl ds fs v' tx7 r D kp kb x9 ∧ v' 3 = p ∧ (∀ j, j ≠ 3 → v' j = v9 j)) ∨ (∃ h' e', FX6_readText T b h = some (iZ (-9), h') ∧ ShAt T h' (b + 21) e' ∧ OkD e' ∧ St T h' b o n tx d cnt nxt dd fl ds fs v tx7 r D kp kb x ∧ ∀ (d : Nat → Nat → Int) (cnt nxt : Int) (dd : Nat → Nat → Nat → Int) (fl : Nat → Int) (ds : Nat → Nat → Nat → Int) (fs : Nat → Int) (k9 : zH) (v9 : Nat → Int) (x9 : Int64), St T k9 b o n tx d cnt nxt dd fl ds fs v9 tx7 r D kp kb x9 → v9 2 = n → ∃ k' v' rt', FX7_readAll T (b + 354) k9 = some (iZ 1, k') ∧ St T k' b o n tx d cnt nxt dd fl ds fs v' tx7 r D kp kb x9 ∧ (∀ j, j ≠ 3 → v' j = v9 j) ∧ Arr T k' (b + 354 + 2) 739 rt' ∧ Pg e' rt') := by
  have tc : ∀ j : Int, 0 ≤ j → j < n → 0 ≤ tx j.toNat ∧ tx j.toNat ≤ 255 := fun j j1 j2 => (hT j.toNat (by omega)).2
  have T0 : ∃ t, TrAt h (b + 3) t := S.2.2.1 0 (by omega)
  obtain ⟨t, H⟩ := T0
  have T1 : ∃ e, ShAt T h (b + 21) e := S.2.2.1 1 (by omega)
  obtain ⟨e0, E0⟩ := T1
  obtain ⟨h1, d1, e1, M1, f1, a1, z1⟩ := makeNew_eq E0
  have S1 := S.trial M1 f1
  have H1 : TrAt h1 (b + 3) t := (f1 _ (by omega)).trans H
  obtain ⟨h2, e2, H2, f2⟩ := tr_set H1 (k := 0) (by omega) 0
  have S2 := S1.tr H2 f2
  have M2 : ShAt T h2 (b + 21) d1 := M1.kept (fun q q1 q2 => f2 q (by omega))
  have start : FX6_readText T b h = CR T b (9999 + 1) 0 h2 := by
    rw [cr_form, cs_zo S.cs0, zsn, cs_r2 S.cs0, zsn, cs_r4 S.cs0, zsn]
    unfold FX5_begin
    rw [tr_zo H, zsn, e1, zsn, q0, e2, zsn, zsn]
    rfl
  rw [start]
  by_cases g0 : (0 : Int) < n ∧ tx (0 : Int).toNat = 83
  case neg =>
    exact Or.inl ⟨0, h2, cr_bad S2 H2 (show (0 : Int) ≠ 3 by decide) (by show -99 ≤ (0 : Int) ∧ (0 : Int) ≤ 99; omega) n2 (by omega) n0 (fun w => al0 H2 (tc 0 (by omega) w).1 (tc 0 (by omega) w).2 rfl) g0 9999, by omega, S2, head7 hT n2 n0 (Or.inl ⟨rfl, g0⟩)⟩
  obtain ⟨h3, t3, H3, M3, S3⟩ := tk0 S2 H2 M2 (tc 0 (by omega) g0.1).1 (tc 0 (by omega) g0.1).2 rfl
  have c3 := cr_good S2 n2 (i := 0) (by omega) g0 (al0 H2 (tc 0 (by omega) g0.1).1 (tc 0 (by omega) g0.1).2 rfl) t3 9999
  rw [show (0 : Int) + 1 = 1 from rfl] at c3
  have hd1 := dg_in (c := tx (1 : Int).toNat)
  by_cases g1 : (1 : Int) < n ∧ 1 ≤ dg (tx (1 : Int).toNat) ∧ dg (tx (1 : Int).toNat) ≤ 9
  case neg =>
    exact Or.inl ⟨1, h3, c3.trans (cr_bad S3 H3 (show (1 : Int) ≠ 3 by decide) (by show -99 ≤ (1 : Int) ∧ (1 : Int) ≤ 99; omega) n2 (by omega) (by omega) (fun w => al1 H3 (tc 1 (by omega) w).1 (tc 1 (by omega) w).2 rfl) (fun w => g1 ⟨w.1, w.2, by omega⟩) 9998), by omega, S3, head7 hT n2 n0 (Or.inr (Or.inl ⟨rfl, g0, g1⟩))⟩
  obtain ⟨h4, t4, H4, M4, S4⟩ := tk1 S3 H3 M3 (tc 1 (by omega) g1.1).1 (tc 1 (by omega) g1.1).2 rfl
  have c4 := cr_good S3 n2 (i := 1) (by omega) (C := 1 ≤ dg (tx (1 : Int).toNat)) ⟨g1.1, g1.2.1⟩ (al1 H3 (tc 1 (by omega) g1.1).1 (tc 1 (by omega) g1.1).2 rfl) t4 9998
  rw [show (1 : Int) + 1 = 2 from rfl] at c4
  have hd2 := dg_in (c := tx (2 : Int).toNat)
  by_cases g2 : (2 : Int) < n ∧ 1 ≤ dg (tx (2 : Int).toNat) ∧ dg (tx (2 : Int).toNat) ≤ 9
  case neg =>
    exact Or.inl ⟨2, h4, c3.trans (c4.trans (cr_bad S4 H4 (show (2 : Int) ≠ 3 by decide) (by show -99 ≤ (2 : Int) ∧ (2 : Int) ≤ 99; omega) n2 (by omega) (by omega) (fun w => al2 H4 (tc 2 (by omega) w).1 (tc 2 (by omega) w).2 rfl) (fun w => g2 ⟨w.1, w.2, by omega⟩) 9997)), by omega, S4, head7 hT n2 n0 (Or.inr (Or.inr ⟨rfl, g0, g1, g2⟩))⟩
  obtain ⟨h5, t5, H5, M5, S5⟩ := tk2 S4 H4 M4 (tc 2 (by omega) g2.1).1 (tc 2 (by omega) g2.1).2 rfl
  have c5 := cr_good S4 n2 (i := 2) (by omega) (C := 1 ≤ dg (tx (2 : Int).toNat)) ⟨g2.1, g2.2.1⟩ (al2 H4 (tc 2 (by omega) g2.1).1 (tc 2 (by omega) g2.1).2 rfl) t5 9997
  rw [show (2 : Int) + 1 = 3 from rfl] at c5
  have hF := fresh2 (W := dg (tx (1 : Int).toNat)) (H9 := dg (tx (2 : Int).toNat)) a1 z1
  have hO := OkD_fresh hF g1.2.1 g1.2.2 g2.2.1 g2.2.2
  have go := head7_go (T := T) (b := b) (o := o) (r := r) (D := D) (kp := kp) (kb := kb) hT n2 g0 g1 g2
  rcases parts (v := v) (x := x) (T := T) (b := b) (o := o) (d := d) (cnt := cnt) (nxt := nxt) (dd := dd) (fl := fl) (ds := ds) (fs := fs) (r := r) (D := D) (kp := kp) (kb := kb) hT n2 120 3 9997 h5 _ _ (by omega) (by omega) (by omega) (by omega) S5 H5 rfl M5 hO with ⟨p, h6, b1, b2, b3, b4⟩ | ⟨h6, e6, b1, b2, b3, b4, b5⟩
  · refine Or.inl ⟨p, h6, c3.trans (c4.trans (c5.trans b1)), b2, b3, fun d cnt nxt dd fl ds fs k9 v9 x9 K kN => ?_⟩
    obtain ⟨k1, v1, r1, w1, w2, w3, w4, w5, w6⟩ := go d cnt nxt dd fl ds fs k9 v9 x9 K kN
    obtain ⟨k', v', rt', y1, y2, y3, y4, y5⟩ := b4 d cnt nxt dd fl ds fs FUEL k1 v1 x9 r1 (by unfold FUEL; omega) w2 ((w4 2 (by decide)).trans kN) w3 w5 (Pg_fresh hF g1.2.1 g1.2.2 g2.2.1 g2.2.2 w6)
    exact ⟨k', v', w1.trans y1, y2, y3, fun j hj => (y4 j hj).trans (w4 j hj)⟩
  · refine Or.inr ⟨h6, e6, c3.trans (c4.trans (c5.trans b1)), b2, b3, b4, fun d cnt nxt dd fl ds fs k9 v9 x9 K kN => ?_⟩
    obtain ⟨k1, v1, r1, w1, w2, w3, w4, w5, w6⟩ := go d cnt nxt dd fl ds fs k9 v9 x9 K kN
    obtain ⟨k', v', rt', y1, y2, y3, y4, y5⟩ := b5 d cnt nxt dd fl ds fs FUEL k1 v1 x9 r1 (by unfold FUEL; omega) w2 ((w4 2 (by decide)).trans kN) w3 w5 (Pg_fresh hF g1.2.1 g1.2.2 g2.2.1 g2.2.2 w6)
    exact ⟨k', v', rt', w1.trans y1, y2, fun j hj => (y3 j hj).trans (w4 j hj), y4, y5⟩
theorem c_errpos (S : St T h b o n tx d cnt nxt dd fl ds fs v tx7 r D kp kb x) (R : Rel n tx d cnt nxt dd fl ds fs v tx7 r D kp kb) : Rn2 T b o (FX6_errorPosition T b h) (FX7_errorPosition T (b + 354)) := by
  obtain ⟨⟨n0, n2, rN, hT⟩, r5, r6, r7⟩ := id R
  rcases text_all S hT n2 n0 with ⟨p, h1, b1, b2, b3, b4⟩ | ⟨h1, e', b1, b2, b3, b4, b5⟩
  · obtain ⟨k1, e1, M1, p1⟩ := mo_set b3.mo0 (k := 0) (by omega) 0
    have K1 := b3.mo M1 p1
    obtain ⟨k2, v2, e2, K2, u1, u2⟩ := b4 _ _ _ _ _ _ _ k1 _ _ K1 ((upZ_ne _ _ (by decide)).trans rN)
    refine ⟨iZ p, h1, k2, ?_, ?_, _, _, K2.fin (R.vv ((u2 2 (by decide)).trans (upZ_ne _ _ (by decide))) ((u2 9 (by decide)).trans (upZ_ne _ _ (by decide)))) rfl⟩
    · unfold FX6_errorPosition
      rw [cs_zo S.cs0, zsn, b1, zb2n]
    · unfold FX7_errorPosition
      rw [mo_zo b3.mo0, zsn]
      simp only [zJn]
      rw [q0, e1, zsn, e2, zb2n, if_pos rfl, mo_g3 K2.mo0, zsn, u1]
  · obtain ⟨k1, e1, M1, p1⟩ := mo_set b4.mo0 (k := 0) (by omega) 0
    have K1 := b4.mo M1 p1
    obtain ⟨k2, v2, rt2, e2, K2, u2, A2, Q2⟩ := b5 _ _ _ _ _ _ _ k1 _ _ K1 ((upZ_ne _ _ (by decide)).trans rN)
    refine ⟨iZ (-9), h1, k2, ?_, ?_, _, _, K2.fin (R.vv ((u2 2 (by decide)).trans (upZ_ne _ _ (by decide))) ((u2 9 (by decide)).trans (upZ_ne _ _ (by decide)))) rfl⟩
    · unfold FX6_errorPosition
      rw [cs_zo S.cs0, zsn, b1, zb2n]
    · unfold FX7_errorPosition
      rw [mo_zo b4.mo0, zsn]
      simp only [zJn]
      rw [q0, e1, zsn, e2, zb2n, if_neg (show ¬ iZ 1 = iZ 0 by decide), qm9]
theorem c_load (S : St T h b o n tx d cnt nxt dd fl ds fs v tx7 r D kp kb x) (R : Rel n tx d cnt nxt dd fl ds fs v tx7 r D kp kb) : Rnd T b o (FL_load T b o h) (FX7_load T (b + 354)) := by
  obtain ⟨⟨n0, n2, rN, hT⟩, r5, r6, r7⟩ := id R
  unfold FL_load
  rcases text_all S hT n2 n0 with ⟨p, h1, b1, b2, b3, b4⟩ | ⟨h1, e', b1, b2, b3, b4, b5⟩
  · obtain ⟨k1, v1, e1, K1, u1, u2⟩ := b4 _ _ _ _ _ _ _ h1 _ _ b3 rN
    obtain ⟨k2, e2, K2⟩ := K1.no (R.vv (u2 2 (by decide)) (u2 9 (by decide))) (c := 1) (by omega) (by omega)
    refine rnd_ex (F6 := FX6_load T b) (E := "java/lang/IllegalStateException") (h' := h1) (c := 1) (by omega) ?_ ?_ ⟨0, k2, by omega, ?_, K2⟩
    · unfold FX6_load
      rw [cs_zo S.cs0, zsn, b1, zb2n, qm9, if_neg (by rw [iZ_eq (by omega) (by omega) (by omega) (by omega)]; omega)]
    · rw [if_pos rfl, q1]
    · unfold FX7_load
      rw [mo_zo b3.mo0, zsn]
      simp only [zJn]
      rw [e1, zb2n, q0, if_pos rfl, q1, e2, zb2n, if_neg (show ¬ iZ 1 = iZ 0 by decide)]
  · obtain ⟨h2, d2, e2, M2, hs, f2⟩ := takeFrom_eq b4.sh0 b2 (by omega)
    have S2 := b4.pres M2 f2
    obtain ⟨h3, e3, H3, f3⟩ := hs_s0 S2.hs0 0
    have S3 := S2.hist H3 (fun q hq => f3 q (by omega))
    obtain ⟨h4, fs4, e4, F4, z4, f4⟩ := clear4_eq S3.sf0 (by omega)
    have S4 := S3.slots F4 f4
    have hOn := OkD_same hs b3
    have hc := cnt_in hOn
    refine rnd_ok (F6 := FX6_load T b) (h' := h4) (val := gsum d2 (cn d2)) (by omega) ?_ S4 (fun q K => ?_)
    · unfold FX6_load FX0_forget
      rw [cs_zo S.cs0, zsn, b1, zb2n, qm9, if_pos rfl, cs_r3 b4.cs0, zsn, cs_r4 b4.cs0, zsn, e2, zsn, cs_r6 S2.cs0, zsn, hs_zo S2.hs0, zsn, q0, e3, zsn, zsn, cs_r7 S3.cs0, zsn, e4, zsn, cs_r3 S4.cs0, zsn, countMarks_eq S4.sh0 hOn, zsn]
    · obtain ⟨k1, v1, r1, g1, K1, u2, A1, Q1⟩ := b5 _ _ _ _ _ _ _ q _ _ K rN
      obtain ⟨k2, g2, M2', p2⟩ := refused_eq (T := T) K1.mo0 (c := 0) (by omega) (by omega)
      rw [if_pos rfl] at g2
      have K2 := K1.mo M2' p2
      obtain ⟨k3, g3, A3, p3⟩ := copy_eq (p := 0) (q := 0) (A1.kept (p2 _ (by omega))) K2.pg0 (by omega) (by omega) (by omega) (by omega) (by omega)
      have K3 := K2.page A3 p3
      obtain ⟨k4, g4, M4, p4⟩ := mo_set K3.mo0 (k := 9) (by omega) 0
      have K4 := K3.mo M4 p4
      obtain ⟨k5, g5, B5, p5⟩ := zbs_B (i := 0) (y := 0) K4.kb0 (by omega) (by omega) (by omega) (Or.inl rfl)
      have K5 := K4.skb B5 p5
      obtain ⟨k6, g6, B6, p6⟩ := zbs_B (i := 1) (y := 0) K5.kb0 (by omega) (by omega) (by omega) (Or.inl rfl)
      have K6 := K5.skb B6 p6
      have hPn : Pg d2 (cpy r1 r 0 0 739) := Pg_same hs b3 Q1 (fun j hj => by
        unfold cpy
        rw [if_pos (by omega)]
        congr 1
        omega)
      obtain ⟨c1, c2, c3, c4⟩ := r6.2.1
      refine ⟨k6, ?_, K6.fin ⟨⟨n0, n2, ((upZ_ne _ _ (by decide)).trans ((upZ_ne _ _ (by decide)).trans ((u2 2 (by decide)).trans rN))), hT⟩, ⟨hOn, hPn⟩, ⟨upZ_self _ _ _, ⟨by omega, by omega, c3, c4⟩, fun t ht => by omega⟩, fun i hi => ⟨Or.inl (z4 i hi), ?_, fun w => absurd ((z4 i hi).symm.trans w) (by decide)⟩⟩ ((upZ_ne _ _ (by decide)).trans (upZ_self _ _ _))⟩
      · have hm : FX7_marksOf T (b + 354 + 3) k6 = some (iZ (gsum d2 (cn d2))) := marksOf_eq K6.pg0 hPn.1 hOn
        unfold FX7_load
        rw [mo_zo K.mo0, zsn]
        simp only [zJn]
        rw [g1, zb2n, q0, if_neg (show ¬ iZ 1 = iZ 0 by decide), g2, zb2n, if_pos rfl, mo_r4 K2.mo0, zsn, mo_r5 K2.mo0, zsn, show FX7_copyPage T (b + 354 + 2) (iZ 0) (b + 354 + 3) (iZ 0) k2 = some k3 from g3, zsn, g4, zsn, mo_r11 K4.mo0, zsn, g5, zsn, mo_r11 K5.mo0, zsn, q1, g6, zsn, mo_r5 K6.mo0, zsn, hm, zsn]
      · rw [z4 i hi]
        rcases (show i = 0 ∨ i = 1 by omega) with rfl | rfl
        · exact (upZ_ne _ _ (by decide)).trans (upZ_self _ _ _)
        · exact upZ_self _ _ _
end Tx
