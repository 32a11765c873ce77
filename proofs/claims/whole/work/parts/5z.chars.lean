/-! the reference reads characters -/
section Rc7
variable {T : zT} {h : zH} {b o : Nat} {n : Int} {tx : Nat → Int} {d : Nat → Nat → Int} {cnt nxt : Int} {dd : Nat → Nat → Nat → Int} {fl : Nat → Int} {ds : Nat → Nat → Nat → Int} {fs v tx7 r D kp kb : Nat → Int} {x : Int64}
variable {h' : zH}
theorem tx_at (S : St T h b o n tx d cnt nxt dd fl ds fs v tx7 r D kp kb x) (hT : ∀ j : Nat, (j : Int) < n → tx7 j = tx j ∧ 0 ≤ tx j ∧ tx j ≤ 255) (n2 : n ≤ 120) {i : Int} (i1 : 0 ≤ i) (i2 : i < n) : zai T h (b + 354 + 1) (iZ i) = some (iZ (tx i.toNat)) ∧ 0 ≤ tx i.toNat ∧ tx i.toNat ≤ 255 := by
  have e := hT i.toNat (by omega)
  refine ⟨?_, e.2⟩
  rw [← e.1]
  exact zai_Arr S.t70 i1 (by omega) (by omega)
theorem eat_t (S : St T h b o n tx d cnt nxt dd fl ds fs v tx7 r D kp kb x) (hT : ∀ j : Nat, (j : Int) < n → tx7 j = tx j ∧ 0 ≤ tx j ∧ tx j ≤ 255) (hN : v 2 = n) (n2 : n ≤ 120) {i : Int} (i1 : 0 ≤ i) (i2 : i ≤ n) (hI : v 3 = i) {c : Int} (c1 : 0 ≤ c) (c2 : c ≤ 255) (g : i < n ∧ tx i.toNat = c) : ∃ h', FX7_eat T (b + 354) (iZ c) h = some (iZ 1, h') ∧ St T h' b o n tx d cnt nxt dd fl ds fs (upZ v 3 (i + 1)) tx7 r D kp kb x ∧ ∀ q, q ≠ b + 354 → h' q = h q := by
  obtain ⟨a1, a2, a3⟩ := tx_at S hT n2 i1 g.1
  obtain ⟨h1, e1, M1, f1⟩ := mo_set S.mo0 (k := 3) (by omega) (i + 1)
  refine ⟨h1, ?_, S.mo M1 f1, f1⟩
  unfold FX7_eat
  rw [mo_zo S.mo0, zsn]
  simp only [zJn]
  rw [mo_g3 S.mo0, zsn, mo_g2 S.mo0, zsn, hI, hN, if_neg (by rw [iZ_le (by omega) (by omega) (by omega) (by omega)]; omega), mo_r1 S.mo0, zsn, zsn, a1, zsn, g.2, if_pos rfl, zsn, q0, q1]
  (first | rw [if_neg (show ¬ iZ 1 = iZ 0 by decide)] | rw [if_neg (show ¬ (1 : Int32) = iZ 0 by decide)] | rw [if_neg (fun z => z)])
  rw [iZ_add, e1, zsn]
  (first | rw [if_pos (Or.inr rfl)] | rw [if_pos (Or.inr trivial)])
theorem eat_f (S : St T h b o n tx d cnt nxt dd fl ds fs v tx7 r D kp kb x) (hT : ∀ j : Nat, (j : Int) < n → tx7 j = tx j ∧ 0 ≤ tx j ∧ tx j ≤ 255) (hN : v 2 = n) (n2 : n ≤ 120) {i : Int} (i1 : 0 ≤ i) (i2 : i ≤ n) (hI : v 3 = i) {c : Int} (c1 : 0 ≤ c) (c2 : c ≤ 255) (g : ¬ (i < n ∧ tx i.toNat = c)) : ∃ h', FX7_eat T (b + 354) (iZ c) h = some (iZ 0, h') ∧ St T h' b o n tx d cnt nxt dd fl ds fs (upZ v 3 i) tx7 r D kp kb x ∧ ∀ q, q ≠ b + 354 → h' q = h q := by
  obtain ⟨h1, e1, M1, f1⟩ := mo_set S.mo0 (k := 3) (by omega) i
  refine ⟨h1, ?_, S.mo M1 f1, f1⟩
  unfold FX7_eat
  rw [mo_zo S.mo0, zsn]
  simp only [zJn]
  rw [mo_g3 S.mo0, zsn, mo_g2 S.mo0, zsn, hI, hN]
  by_cases g1 : i < n
  · obtain ⟨a1, a2, a3⟩ := tx_at S hT n2 i1 g1
    rw [if_neg (by rw [iZ_le (by omega) (by omega) (by omega) (by omega)]; omega), mo_r1 S.mo0, zsn, zsn, a1, zsn, if_neg (by rw [iZ_eq (by omega) (by omega) (by omega) (by omega)]; exact fun z => g ⟨g1, z⟩), zsn, q0]
    (first | rw [if_pos rfl] | rw [if_pos trivial])
    rw [iZ_add, Int.add_zero, e1, zsn]
    (first | rw [if_pos (Or.inl rfl)] | rw [if_pos (Or.inl trivial)])
  · rw [if_pos (by rw [iZ_le (by omega) (by omega) (by omega) (by omega)]; omega), zsn, q0]
    (first | rw [if_pos rfl] | rw [if_pos trivial])
    rw [iZ_add, Int.add_zero, e1, zsn]
    (first | rw [if_pos (Or.inl rfl)] | rw [if_pos (Or.inl trivial)])
theorem digit_t (S : St T h b o n tx d cnt nxt dd fl ds fs v tx7 r D kp kb x) (hT : ∀ j : Nat, (j : Int) < n → tx7 j = tx j ∧ 0 ≤ tx j ∧ tx j ≤ 255) (hN : v 2 = n) (n2 : n ≤ 120) {i : Int} (i1 : 0 ≤ i) (i2 : i ≤ n) (hI : v 3 = i) {lo hi : Int} (l1 : 0 ≤ lo) (l2 : lo ≤ 9) (h1 : -1 ≤ hi) (h2 : hi ≤ 9) (g : i < n ∧ lo ≤ dg (tx i.toNat) ∧ dg (tx i.toNat) ≤ hi) : ∃ h', FX7_digit T (b + 354) (iZ lo) (iZ hi) h = some (iZ (dg (tx i.toNat)), h') ∧ St T h' b o n tx d cnt nxt dd fl ds fs (upZ v 3 (i + 1)) tx7 r D kp kb x ∧ ∀ q, q ≠ b + 354 → h' q = h q := by
  obtain ⟨a1, a2, a3⟩ := tx_at S hT n2 i1 g.1
  have hd := dg_in (c := tx i.toNat)
  obtain ⟨k1, e1, M1, f1⟩ := mo_set S.mo0 (k := 3) (by omega) (i + 1)
  refine ⟨k1, ?_, S.mo M1 f1, f1⟩
  unfold FX7_digit
  rw [mo_zo S.mo0, zsn]
  simp only [zJn]
  rw [mo_g3 S.mo0, zsn, mo_g2 S.mo0, zsn, hI, hN, if_neg (by rw [iZ_le (by omega) (by omega) (by omega) (by omega)]; omega), mo_r1 S.mo0, zsn, zsn, a1, zsn, r48, iZ_sub, iZ_long (by omega) (by omega), l0, l9, in_t (by omega) (by omega) (by omega) (by omega) (by omega) (by omega) (by omega), zsn, q0, if_neg (show ¬ iZ 1 = iZ 0 by decide), iZ_long (by omega) (by omega), iZ_long (by omega) (by omega), in_t (by omega) (by omega) (by omega) (by omega) (by omega) (by omega) (by omega), zsn, if_neg (show ¬ iZ 1 = iZ 0 by decide), zsn, q1]
  (first | rw [if_neg (show ¬ iZ 1 = iZ 0 by decide)] | rw [if_neg (show ¬ (1 : Int32) = iZ 0 by decide)] | rw [if_neg (fun z => z)])
  rw [iZ_add, e1, zsn]
  (try (first | rw [if_neg (show ¬ iZ 1 = iZ 0 by decide)] | rw [if_neg (show ¬ (1 : Int32) = iZ 0 by decide)] | rw [if_neg (fun z => z)]))
  rw [show tx i.toNat - 48 = dg (tx i.toNat) from by omega]
theorem digit_f (S : St T h b o n tx d cnt nxt dd fl ds fs v tx7 r D kp kb x) (hT : ∀ j : Nat, (j : Int) < n → tx7 j = tx j ∧ 0 ≤ tx j ∧ tx j ≤ 255) (hN : v 2 = n) (n2 : n ≤ 120) {i : Int} (i1 : 0 ≤ i) (i2 : i ≤ n) (hI : v 3 = i) {lo hi : Int} (l1 : 0 ≤ lo) (l2 : lo ≤ 9) (h1 : -1 ≤ hi) (h2 : hi ≤ 9) (g : ¬ (i < n ∧ lo ≤ dg (tx i.toNat) ∧ dg (tx i.toNat) ≤ hi)) : ∃ h', FX7_digit T (b + 354) (iZ lo) (iZ hi) h = some (iZ (-9), h') ∧ St T h' b o n tx d cnt nxt dd fl ds fs (upZ v 3 i) tx7 r D kp kb x ∧ ∀ q, q ≠ b + 354 → h' q = h q := by
  have hd := dg_in (c := tx i.toNat)
  obtain ⟨k1, e1, M1, f1⟩ := mo_set S.mo0 (k := 3) (by omega) i
  refine ⟨k1, ?_, S.mo M1 f1, f1⟩
  unfold FX7_digit
  rw [mo_zo S.mo0, zsn]
  simp only [zJn]
  rw [mo_g3 S.mo0, zsn, mo_g2 S.mo0, zsn, hI, hN]
  by_cases g1 : i < n
  · obtain ⟨a1, a2, a3⟩ := tx_at S hT n2 i1 g1
    rw [if_neg (by rw [iZ_le (by omega) (by omega) (by omega) (by omega)]; omega), mo_r1 S.mo0, zsn, zsn, a1, zsn, r48, iZ_sub, iZ_long (by omega) (by omega), l0, l9]
    by_cases g2 : 0 ≤ tx i.toNat - 48 ∧ tx i.toNat - 48 ≤ 9
    · rw [in_t (by omega) (by omega) (by omega) (by omega) (by omega) (by omega) g2, zsn, q0, if_neg (show ¬ iZ 1 = iZ 0 by decide), iZ_long (by omega) (by omega), iZ_long (by omega) (by omega), in_f (by omega) (by omega) (by omega) (by omega) (by omega) (by omega) (by omega), zsn, if_pos (show iZ 0 = iZ 0 from rfl), zsn]
      (first | rw [if_pos rfl] | rw [if_pos trivial])
      rw [iZ_add, Int.add_zero, e1, zsn]
      (try (first | rw [if_pos rfl] | rw [if_pos trivial]))
      (first | rfl | rw [qm9])
    · rw [in_f (by omega) (by omega) (by omega) (by omega) (by omega) (by omega) g2, zsn, q0, if_pos (show iZ 0 = iZ 0 from rfl), zsn]
      (first | rw [if_pos rfl] | rw [if_pos trivial])
      rw [iZ_add, Int.add_zero, e1, zsn]
      (try (first | rw [if_pos rfl] | rw [if_pos trivial]))
      (first | rfl | rw [qm9])
  · rw [if_pos (by rw [iZ_le (by omega) (by omega) (by omega) (by omega)]; omega), qm1, iZ_long (by omega) (by omega), l0, l9, in_f (by omega) (by omega) (by omega) (by omega) (by omega) (by omega) (by omega), zsn, q0, if_pos (show iZ 0 = iZ 0 from rfl), zsn]
    (first | rw [if_pos rfl] | rw [if_pos trivial])
    rw [iZ_add, Int.add_zero, e1, zsn]
    (try (first | rw [if_pos rfl] | rw [if_pos trivial]))
    (first | rfl | rw [qm9])
theorem sign_t (S : St T h b o n tx d cnt nxt dd fl ds fs v tx7 r D kp kb x) (hT : ∀ j : Nat, (j : Int) < n → tx7 j = tx j ∧ 0 ≤ tx j ∧ tx j ≤ 255) (hN : v 2 = n) (n2 : n ≤ 120) {i : Int} (i1 : 0 ≤ i) (i2 : i ≤ n) (hI : v 3 = i) (g : i < n ∧ (tx i.toNat = 45 ∨ (97 ≤ tx i.toNat ∧ tx i.toNat ≤ 122))) : ∃ h' v', FX7_readSign T (b + 354) h = some (iZ (if tx i.toNat = 45 then 26 else tx i.toNat - 97), h') ∧ St T h' b o n tx d cnt nxt dd fl ds fs (v') tx7 r D kp kb x ∧ v' 3 = i + 1 ∧ (∀ j, j ≠ 3 → v' j = v j) ∧ ∀ q, q ≠ b + 354 → h' q = h q := by
  obtain ⟨a1, a2, a3⟩ := tx_at S hT n2 i1 g.1
  by_cases g1 : tx i.toNat = 45
  · obtain ⟨k1, e1, K1, p1⟩ := eat_t S hT hN n2 i1 i2 hI (c := 45) (by omega) (by omega) ⟨g.1, g1⟩
    refine ⟨k1, _, ?_, K1, upZ_self _ _ _, fun j hj => upZ_ne _ _ hj, p1⟩
    unfold FX7_readSign
    rw [mo_zo S.mo0, zsn, r45, e1, zb2n, q0, if_neg (show ¬ iZ 1 = iZ 0 by decide), q26, if_pos g1]
  · obtain ⟨k1, e1, K1, p1⟩ := eat_f S hT hN n2 i1 i2 hI (c := 45) (by omega) (by omega) (fun z => g1 z.2)
    have hI1 : upZ v 3 i 3 = i := upZ_self _ _ _
    have hN1 : upZ v 3 i 2 = n := (upZ_ne _ _ (by decide)).trans hN
    obtain ⟨b1, b2, b3⟩ := tx_at K1 hT n2 i1 g.1
    obtain ⟨k2, e2, M2, f2⟩ := mo_set K1.mo0 (k := 3) (by omega) (i + 1)
    refine ⟨k2, _, ?_, K1.mo M2 f2, upZ_self _ _ _, fun j hj => (upZ_ne _ _ hj).trans (upZ_ne _ _ hj), fun q hq => (f2 q hq).trans (p1 q hq)⟩
    unfold FX7_readSign
    rw [mo_zo S.mo0, zsn, r45, e1, zb2n, q0, if_pos rfl]
    simp only [zJn]
    rw [mo_g3 K1.mo0, zsn, mo_g2 K1.mo0, zsn, hI1, hN1, if_neg (by rw [iZ_le (by omega) (by omega) (by omega) (by omega)]; omega), mo_r1 K1.mo0, zsn, zsn, b1, zsn, r97, iZ_sub, iZ_long (by omega) (by omega), l0, l25, in_t (by omega) (by omega) (by omega) (by omega) (by omega) (by omega) (by omega), zsn, zsn, if_neg (show ¬ iZ 1 = iZ 0 by decide), q1, iZ_add, e2, zsn, if_neg (show ¬ iZ 1 = iZ 0 by decide), if_neg g1]
theorem sign_f (S : St T h b o n tx d cnt nxt dd fl ds fs v tx7 r D kp kb x) (hT : ∀ j : Nat, (j : Int) < n → tx7 j = tx j ∧ 0 ≤ tx j ∧ tx j ≤ 255) (hN : v 2 = n) (n2 : n ≤ 120) {i : Int} (i1 : 0 ≤ i) (i2 : i ≤ n) (hI : v 3 = i) (g : ¬ (i < n ∧ (tx i.toNat = 45 ∨ (97 ≤ tx i.toNat ∧ tx i.toNat ≤ 122)))) : ∃ h' v', FX7_readSign T (b + 354) h = some (iZ (-9), h') ∧ St T h' b o n tx d cnt nxt dd fl ds fs (v') tx7 r D kp kb x ∧ v' 3 = i ∧ (∀ j, j ≠ 3 → v' j = v j) ∧ ∀ q, q ≠ b + 354 → h' q = h q := by
  obtain ⟨k1, e1, K1, p1⟩ := eat_f S hT hN n2 i1 i2 hI (c := 45) (by omega) (by omega) (fun z => g ⟨z.1, Or.inl z.2⟩)
  have hI1 : upZ v 3 i 3 = i := upZ_self _ _ _
  have hN1 : upZ v 3 i 2 = n := (upZ_ne _ _ (by decide)).trans hN
  obtain ⟨k2, e2, M2, f2⟩ := mo_set K1.mo0 (k := 3) (by omega) i
  refine ⟨k2, _, ?_, K1.mo M2 f2, upZ_self _ _ _, fun j hj => (upZ_ne _ _ hj).trans (upZ_ne _ _ hj), fun q hq => (f2 q hq).trans (p1 q hq)⟩
  unfold FX7_readSign
  rw [mo_zo S.mo0, zsn, r45, e1, zb2n, q0, if_pos rfl]
  simp only [zJn]
  rw [mo_g3 K1.mo0, zsn, mo_g2 K1.mo0, zsn, hI1, hN1]
  by_cases g1 : i < n
  · obtain ⟨b1, b2, b3⟩ := tx_at K1 hT n2 i1 g1
    rw [if_neg (by rw [iZ_le (by omega) (by omega) (by omega) (by omega)]; omega), mo_r1 K1.mo0, zsn, zsn, b1, zsn, r97, iZ_sub, iZ_long (by omega) (by omega), l0, l25, in_f (by omega) (by omega) (by omega) (by omega) (by omega) (by omega) (by omega), zsn, zsn, if_pos rfl, iZ_add, Int.add_zero, e2, zsn, if_pos rfl]
    (first | rfl | rw [qm9])
  · rw [if_pos (by rw [iZ_le (by omega) (by omega) (by omega) (by omega)]; omega), qm1, iZ_long (by omega) (by omega), l0, l25, in_f (by omega) (by omega) (by omega) (by omega) (by omega) (by omega) (by omega), zsn, zsn, if_pos rfl, iZ_add, Int.add_zero, e2, zsn, if_pos rfl]
    (first | rfl | rw [qm9])
end Rc7
