/-! the reference reads a number, a pen -/
section Np7
variable {T : zT} {h : zH} {b o : Nat} {n : Int} {tx : Nat → Int} {d : Nat → Nat → Int} {cnt nxt : Int} {dd : Nat → Nat → Nat → Int} {fl : Nat → Int} {ds : Nat → Nat → Nat → Int} {fs v tx7 r D kp kb : Nat → Int} {x : Int64}
variable {h' : zH}
theorem num_no (S : St T h b o n tx d cnt nxt dd fl ds fs v tx7 r D kp kb x) (hT : ∀ j : Nat, (j : Int) < n → tx7 j = tx j ∧ 0 ≤ tx j ∧ tx j ≤ 255) (hN : v 2 = n) (n2 : n ≤ 120) {i : Int} (i1 : 0 ≤ i) (i2 : i ≤ n) (hI : v 3 = i) {rt : Nat → Int} (A : Arr T h (b + 354 + 2) 739 rt) {w lo hi : Int} (l1 : 0 ≤ lo) (l2 : lo ≤ 9) (h1 : -1 ≤ hi) (h2 : hi ≤ 9) (g : ¬ (i < n ∧ lo ≤ dg (tx i.toNat) ∧ dg (tx i.toNat) ≤ hi)) : ∃ h' v', FX7_readNumber T (b + 354) (iZ w) (iZ lo) (iZ hi) h = some (iZ 0, h') ∧ St T h' b o n tx d cnt nxt dd fl ds fs (v') tx7 r D kp kb x ∧ v' 3 = i ∧ (∀ j, j ≠ 3 → v' j = v j) ∧ Arr T h' (b + 354 + 2) 739 rt := by
  obtain ⟨k1, e1, K1, p1⟩ := digit_f S hT hN n2 i1 i2 hI l1 l2 h1 h2 g
  refine ⟨k1, _, ?_, K1, upZ_self _ _ _, fun j hj => upZ_ne _ _ hj, A.kept (p1 _ (by omega))⟩
  unfold FX7_readNumber
  rw [mo_zo S.mo0, zsn, e1, zb2n, qm9, if_pos rfl, q0]
theorem num_go (S : St T h b o n tx d cnt nxt dd fl ds fs v tx7 r D kp kb x) (hT : ∀ j : Nat, (j : Int) < n → tx7 j = tx j ∧ 0 ≤ tx j ∧ tx j ≤ 255) (hN : v 2 = n) (n2 : n ≤ 120) {i : Int} (i1 : 0 ≤ i) (i2 : i ≤ n) (hI : v 3 = i) {rt : Nat → Int} (A : Arr T h (b + 354 + 2) 739 rt) {w : Int} (w1 : 0 ≤ w) (w2 : w < 739) {lo hi : Int} (l1 : 0 ≤ lo) (l2 : lo ≤ 9) (h1 : -1 ≤ hi) (h2 : hi ≤ 9) (g : i < n ∧ lo ≤ dg (tx i.toNat) ∧ dg (tx i.toNat) ≤ hi) : ∃ h' v', FX7_readNumber T (b + 354) (iZ w) (iZ lo) (iZ hi) h = some (iZ 1, h') ∧ St T h' b o n tx d cnt nxt dd fl ds fs (v') tx7 r D kp kb x ∧ v' 3 = i + 1 ∧ (∀ j, j ≠ 3 → v' j = v j) ∧ Arr T h' (b + 354 + 2) 739 (upZ rt w.toNat (dg (tx i.toNat))) := by
  obtain ⟨k1, e1, K1, p1⟩ := digit_t S hT hN n2 i1 i2 hI l1 l2 h1 h2 g
  have A1 : Arr T k1 (b + 354 + 2) 739 rt := A.kept (p1 _ (by omega))
  obtain ⟨k2, e2, A2, p2⟩ := zas_p (v := dg (tx i.toNat)) A1 w1 w2
  refine ⟨k2, _, ?_, K1.read7 A2 p2, upZ_self _ _ _, fun j hj => upZ_ne _ _ hj, A2⟩
  unfold FX7_readNumber
  rw [mo_zo S.mo0, zsn, e1, zb2n, qm9, if_neg (by rw [iZ_eq (by omega) (by omega) (by omega) (by omega)]; omega), mo_r4 K1.mo0, zsn, e2, zsn, q1]
theorem pen_no (S : St T h b o n tx d cnt nxt dd fl ds fs v tx7 r D kp kb x) (hT : ∀ j : Nat, (j : Int) < n → tx7 j = tx j ∧ 0 ≤ tx j ∧ tx j ≤ 255) (hN : v 2 = n) (n2 : n ≤ 120) {i : Int} (i1 : 0 ≤ i) (i2 : i ≤ n) (hI : v 3 = i) {rt : Nat → Int} (A : Arr T h (b + 354 + 2) 739 rt) {p : Int} (g : (p = i ∧ ¬ (i < n ∧ 0 ≤ dg (tx i.toNat) ∧ dg (tx i.toNat) ≤ 1)) ∨ (p = i + 1 ∧ (i < n ∧ 0 ≤ dg (tx i.toNat) ∧ dg (tx i.toNat) ≤ 1) ∧ ¬ (i + 1 < n ∧ 0 ≤ dg (tx (i + 1).toNat) ∧ dg (tx (i + 1).toNat) ≤ 3)) ∨ (p = i + 2 ∧ (i < n ∧ 0 ≤ dg (tx i.toNat) ∧ dg (tx i.toNat) ≤ 1) ∧ (i + 1 < n ∧ 0 ≤ dg (tx (i + 1).toNat) ∧ dg (tx (i + 1).toNat) ≤ 3) ∧ ¬ (i + 2 < n ∧ 0 ≤ dg (tx (i + 2).toNat) ∧ dg (tx (i + 2).toNat) ≤ 8)) ∨ (p = i + 3 ∧ (i < n ∧ 0 ≤ dg (tx i.toNat) ∧ dg (tx i.toNat) ≤ 1) ∧ (i + 1 < n ∧ 0 ≤ dg (tx (i + 1).toNat) ∧ dg (tx (i + 1).toNat) ≤ 3) ∧ (i + 2 < n ∧ 0 ≤ dg (tx (i + 2).toNat) ∧ dg (tx (i + 2).toNat) ≤ 8) ∧ ¬ (i + 3 < n ∧ 0 ≤ dg (tx (i + 3).toNat) ∧ dg (tx (i + 3).toNat) ≤ 1))) : ∃ h' v', FX7_readPen T (b + 354) h = some (iZ 0, h') ∧ St T h' b o n tx d cnt nxt dd fl ds fs (v') tx7 r D kp kb x ∧ v' 3 = p ∧ (∀ j, j ≠ 3 → v' j = v j) ∧ Arr T h' (b + 354 + 2) 739 rt := by
  unfold FX7_readPen
  rw [mo_zo S.mo0, zsn]
  simp only [zJn]
  rw [q0, qm9]
  rcases g with ⟨ep, g0⟩ | ⟨ep, g0, g1⟩ | ⟨ep, g0, g1, g2⟩ | ⟨ep, g0, g1, g2, g3⟩
  · obtain ⟨k1, e1, K1, p1⟩ := digit_f S hT hN n2 (i := i) (by omega) (by omega) hI (lo := 0) (hi := 1) (by omega) (by omega) (by omega) (by omega) g0
    refine ⟨k1, _, ?_, K1, (upZ_self _ _ _).trans ep.symm, fun j hj => upZ_ne _ _ hj, (A.kept (p1 _ (by omega)))⟩
    rw [q1, e1, zb2n, if_pos rfl]
    (try (first | rw [if_pos rfl] | rw [if_pos trivial]))
    (try (first | rw [if_pos rfl] | rw [if_pos trivial]))
    (try (first | rw [if_pos rfl] | rw [if_pos trivial]))
  · obtain ⟨k1, e1, K1, p1⟩ := digit_t S hT hN n2 (i := i) (by omega) (by omega) hI (lo := 0) (hi := 1) (by omega) (by omega) (by omega) (by omega) g0
    obtain ⟨k2, e2, K2, p2⟩ := digit_f K1 hT ((upZ_ne _ _ (by decide)).trans hN) n2 (i := i + 1) (by omega) (by omega) ((upZ_self _ _ _).trans (by omega)) (lo := 0) (hi := 3) (by omega) (by omega) (by omega) (by omega) g1
    refine ⟨k2, _, ?_, K2, (upZ_self _ _ _).trans ep.symm, fun j hj => (upZ_ne _ _ hj).trans (upZ_ne _ _ hj), ((A.kept (p1 _ (by omega))).kept (p2 _ (by omega)))⟩
    rw [q1, e1, zb2n, if_neg (by rw [iZ_eq (by omega) (by omega) (by omega) (by omega)]; omega), q3, e2, zb2n, if_pos rfl]
    (try (first | rw [if_pos rfl] | rw [if_pos trivial]))
    (try (first | rw [if_pos rfl] | rw [if_pos trivial]))
    (try (first | rw [if_pos rfl] | rw [if_pos trivial]))
  · obtain ⟨k1, e1, K1, p1⟩ := digit_t S hT hN n2 (i := i) (by omega) (by omega) hI (lo := 0) (hi := 1) (by omega) (by omega) (by omega) (by omega) g0
    obtain ⟨k2, e2, K2, p2⟩ := digit_t K1 hT ((upZ_ne _ _ (by decide)).trans hN) n2 (i := i + 1) (by omega) (by omega) ((upZ_self _ _ _).trans (by omega)) (lo := 0) (hi := 3) (by omega) (by omega) (by omega) (by omega) g1
    obtain ⟨k3, e3, K3, p3⟩ := digit_f K2 hT ((upZ_ne _ _ (by decide)).trans ((upZ_ne _ _ (by decide)).trans hN)) n2 (i := i + 2) (by omega) (by omega) ((upZ_self _ _ _).trans (by omega)) (lo := 0) (hi := 8) (by omega) (by omega) (by omega) (by omega) g2
    refine ⟨k3, _, ?_, K3, (upZ_self _ _ _).trans ep.symm, fun j hj => (upZ_ne _ _ hj).trans ((upZ_ne _ _ hj).trans (upZ_ne _ _ hj)), (((A.kept (p1 _ (by omega))).kept (p2 _ (by omega))).kept (p3 _ (by omega)))⟩
    rw [q1, e1, zb2n, if_neg (by rw [iZ_eq (by omega) (by omega) (by omega) (by omega)]; omega), q3, e2, zb2n, if_neg (by rw [iZ_eq (by omega) (by omega) (by omega) (by omega)]; omega), q8, e3, zb2n, if_pos rfl]
    (try (first | rw [if_pos rfl] | rw [if_pos trivial]))
    (try (first | rw [if_pos rfl] | rw [if_pos trivial]))
    (try (first | rw [if_pos rfl] | rw [if_pos trivial]))
  · obtain ⟨k1, e1, K1, p1⟩ := digit_t S hT hN n2 (i := i) (by omega) (by omega) hI (lo := 0) (hi := 1) (by omega) (by omega) (by omega) (by omega) g0
    obtain ⟨k2, e2, K2, p2⟩ := digit_t K1 hT ((upZ_ne _ _ (by decide)).trans hN) n2 (i := i + 1) (by omega) (by omega) ((upZ_self _ _ _).trans (by omega)) (lo := 0) (hi := 3) (by omega) (by omega) (by omega) (by omega) g1
    obtain ⟨k3, e3, K3, p3⟩ := digit_t K2 hT ((upZ_ne _ _ (by decide)).trans ((upZ_ne _ _ (by decide)).trans hN)) n2 (i := i + 2) (by omega) (by omega) ((upZ_self _ _ _).trans (by omega)) (lo := 0) (hi := 8) (by omega) (by omega) (by omega) (by omega) g2
    obtain ⟨k4, e4, K4, p4⟩ := digit_f K3 hT ((upZ_ne _ _ (by decide)).trans ((upZ_ne _ _ (by decide)).trans ((upZ_ne _ _ (by decide)).trans hN))) n2 (i := i + 3) (by omega) (by omega) ((upZ_self _ _ _).trans (by omega)) (lo := 0) (hi := 1) (by omega) (by omega) (by omega) (by omega) g3
    refine ⟨k4, _, ?_, K4, (upZ_self _ _ _).trans ep.symm, fun j hj => (upZ_ne _ _ hj).trans ((upZ_ne _ _ hj).trans ((upZ_ne _ _ hj).trans (upZ_ne _ _ hj))), ((((A.kept (p1 _ (by omega))).kept (p2 _ (by omega))).kept (p3 _ (by omega))).kept (p4 _ (by omega)))⟩
    rw [q1, e1, zb2n, if_neg (by rw [iZ_eq (by omega) (by omega) (by omega) (by omega)]; omega), q3, e2, zb2n, if_neg (by rw [iZ_eq (by omega) (by omega) (by omega) (by omega)]; omega), q8, e3, zb2n, if_neg (by rw [iZ_eq (by omega) (by omega) (by omega) (by omega)]; omega), e4, zb2n, if_pos rfl]
    (try (first | rw [if_pos rfl] | rw [if_pos trivial]))
    (try (first | rw [if_pos rfl] | rw [if_pos trivial]))
    (try (first | rw [if_pos rfl] | rw [if_pos trivial]))
theorem pen_go (S : St T h b o n tx d cnt nxt dd fl ds fs v tx7 r D kp kb x) (hT : ∀ j : Nat, (j : Int) < n → tx7 j = tx j ∧ 0 ≤ tx j ∧ tx j ≤ 255) (hN : v 2 = n) (n2 : n ≤ 120) {i : Int} (i1 : 0 ≤ i) (i2 : i ≤ n) (hI : v 3 = i) {rt : Nat → Int} (A : Arr T h (b + 354 + 2) 739 rt) (g0 : i < n ∧ 0 ≤ dg (tx i.toNat) ∧ dg (tx i.toNat) ≤ 1) (g1 : i + 1 < n ∧ 0 ≤ dg (tx (i + 1).toNat) ∧ dg (tx (i + 1).toNat) ≤ 3) (g2 : i + 2 < n ∧ 0 ≤ dg (tx (i + 2).toNat) ∧ dg (tx (i + 2).toNat) ≤ 8) (g3 : i + 3 < n ∧ 0 ≤ dg (tx (i + 3).toNat) ∧ dg (tx (i + 3).toNat) ≤ 1) : ∃ h' v', FX7_readPen T (b + 354) h = some (iZ 1, h') ∧ St T h' b o n tx d cnt nxt dd fl ds fs (v') tx7 r D kp kb x ∧ v' 3 = i + 4 ∧ (∀ j, j ≠ 3 → v' j = v j) ∧ Arr T h' (b + 354 + 2) 739 (plet rt (dg (tx i.toNat)).toNat (dg (tx (i + 1).toNat)) (dg (tx (i + 2).toNat)) (dg (tx (i + 3).toNat))) := by
  obtain ⟨k1, e1, K1, p1⟩ := digit_t S hT hN n2 (i := i) (by omega) (by omega) hI (lo := 0) (hi := 1) (by omega) (by omega) (by omega) (by omega) g0
  obtain ⟨k2, e2, K2, p2⟩ := digit_t K1 hT ((upZ_ne _ _ (by decide)).trans hN) n2 (i := i + 1) (by omega) (by omega) ((upZ_self _ _ _).trans (by omega)) (lo := 0) (hi := 3) (by omega) (by omega) (by omega) (by omega) g1
  obtain ⟨k3, e3, K3, p3⟩ := digit_t K2 hT ((upZ_ne _ _ (by decide)).trans ((upZ_ne _ _ (by decide)).trans hN)) n2 (i := i + 2) (by omega) (by omega) ((upZ_self _ _ _).trans (by omega)) (lo := 0) (hi := 8) (by omega) (by omega) (by omega) (by omega) g2
  obtain ⟨k4, e4, K4, p4⟩ := digit_t K3 hT ((upZ_ne _ _ (by decide)).trans ((upZ_ne _ _ (by decide)).trans ((upZ_ne _ _ (by decide)).trans hN))) n2 (i := i + 3) (by omega) (by omega) ((upZ_self _ _ _).trans (by omega)) (lo := 0) (hi := 1) (by omega) (by omega) (by omega) (by omega) g3
  have A4 : Arr T k4 (b + 354 + 2) 739 rt := ((((A.kept (p1 _ (by omega))).kept (p2 _ (by omega))).kept (p3 _ (by omega))).kept (p4 _ (by omega)))
  obtain ⟨L, eL⟩ : ∃ L : Nat, dg (tx i.toNat) = L := ⟨(dg (tx i.toNat)).toNat, by omega⟩
  have hL : L < 2 := by omega
  obtain ⟨k5, e5, A5, p5⟩ := penOn_eq (u := dg (tx (i + 1).toNat)) (v := dg (tx (i + 2).toNat)) (w := dg (tx (i + 3).toNat)) A4 hL
  refine ⟨k5, _, ?_, K4.read7 A5 p5, (upZ_self _ _ _).trans (by omega), fun j hj => (upZ_ne _ _ hj).trans ((upZ_ne _ _ hj).trans ((upZ_ne _ _ hj).trans (upZ_ne _ _ hj))), by rw [eL]; exact A5⟩
  unfold FX7_readPen
  rw [mo_zo S.mo0, zsn]
  simp only [zJn]
  rw [q0, qm9, q1, e1, zb2n, if_neg (by rw [iZ_eq (by omega) (by omega) (by omega) (by omega)]; omega), q3, e2, zb2n, if_neg (by rw [iZ_eq (by omega) (by omega) (by omega) (by omega)]; omega), q8, e3, zb2n, if_neg (by rw [iZ_eq (by omega) (by omega) (by omega) (by omega)]; omega), e4, zb2n, if_neg (by rw [iZ_eq (by omega) (by omega) (by omega) (by omega)]; omega), mo_r4 K4.mo0, zsn, eL, e5, zsn]
end Np7
