/-! call: shared, the reference -/
section Sk
variable {T : zT} {h : zH} {m a : Nat} {r v bg sg wo st fi : Nat → Int} {u w : Nat → Nat → Int}
theorem sh13 (hM : MoAt h m v) (hB : Arr T h (m + 10) 82 bg) (hS : ∃ f, Arr T h (m + 12) 82 f) {c : Int} (c0 : 0 ≤ c) (c1 : c ≤ 81) {ρ : Type} (K : zH → Option ρ) : ∃ k' st, LX7_shared_13 T m (iZ c) K FUEL (iZ 0) h = K k' ∧ Arr T k' (m + 12) 82 st ∧ (∀ j : Nat, (j : Int) ≤ c → st j = bg j) ∧ ∀ q, q ≠ m + 12 → k' q = h q := by
  obtain ⟨f, hF⟩ := hS
  refine Exists.elim (loop_inv0 (L := LX7_shared_13 T m (iZ c) K) (K := K) (I := fun j g => ∃ st, Arr T g (m + 12) 82 st ∧ (∀ t : Nat, t < j → st t = bg t) ∧ ∀ q, q ≠ m + 12 → g q = h q) (n := c.toNat + 1) (by omega) (fun k i g hi hI => ?_) (fun k g hI => ?_) (h := h) ⟨f, hF, fun t ht => by omega, fun q _ => rfl⟩) ?_
  · obtain ⟨st, A, e, f1⟩ := hI
    have M1 := mo_kept hM (f1 _ (by omega))
    have B1 : Arr T g (m + 10) 82 bg := hB.kept (f1 _ (by omega))
    have z : zai T g (m + 10) (iZ (i : Int)) = some (iZ (bg i)) := zai_Arr B1 (by omega) (by omega) (by omega)
    obtain ⟨g2, e2, A2, f2⟩ := zas_Arr (i := i) (v := bg i) A (by omega) (by omega) (by omega)
    refine ⟨g2, ?_, _, A2, fun t ht => ?_, fun q hq => (f2 q hq).trans (f1 q hq)⟩
    · rw [LX7_shared_13.eq_2, if_neg (by rw [iZ_lt (by omega) (by omega) (by omega) (by omega)]; omega), mo_r17 M1, zsn, mo_r13 M1, zsn, z, zsn, e2, zsn, q1, iZ_add]
    · have et : (i : Int).toNat = i := rfl
      rw [et]
      by_cases c : t = i
      · rw [c, upZ_self]
      · rw [upZ_ne _ _ c]; exact e t (by omega)
  · have ec : ((c.toNat + 1 : Nat) : Int) = c + 1 := by omega
    rw [LX7_shared_13.eq_2, ec, if_pos (by rw [iZ_lt (by omega) (by omega) (by omega) (by omega)]; omega)]
  · rintro g ⟨e, st, A, es, f1⟩
    exact ⟨g, st, e, A, fun j hj => es j (by omega), f1⟩
theorem sh38 (hM : MoAt h m v) (hB : Arr T h (m + 11) 81 sg) (hS : ∃ f, Arr T h (m + 13) 81 f) (c0 : 0 ≤ v 16) (c1 : v 16 ≤ 81) (z9 : Int32) {ρ : Type} (K : zH → Option ρ) : ∃ k' fi, LX7_shared_38 T m z9 K FUEL (iZ 0) h = K k' ∧ Arr T k' (m + 13) 81 fi ∧ (∀ j : Nat, (j : Int) < v 16 → fi j = sg j) ∧ ∀ q, q ≠ m + 13 → k' q = h q := by
  obtain ⟨f, hF⟩ := hS
  have ec : (((v 16).toNat : Nat) : Int) = v 16 := by omega
  refine Exists.elim (loop_inv0 (L := LX7_shared_38 T m z9 K) (K := K) (I := fun j g => ∃ st, Arr T g (m + 13) 81 st ∧ (∀ t : Nat, t < j → st t = sg t) ∧ ∀ q, q ≠ m + 13 → g q = h q) (n := (v 16).toNat) (by omega) (fun k i g hi hI => ?_) (fun k g hI => ?_) (h := h) ⟨f, hF, fun t ht => by omega, fun q _ => rfl⟩) ?_
  · obtain ⟨st, A, e, f1⟩ := hI
    have M1 := mo_kept hM (f1 _ (by omega))
    have B1 : Arr T g (m + 11) 81 sg := hB.kept (f1 _ (by omega))
    have z : zai T g (m + 11) (iZ (i : Int)) = some (iZ (sg i)) := zai_Arr B1 (by omega) (by omega) (by omega)
    obtain ⟨g2, e2, A2, f2⟩ := zas_Arr (i := i) (v := sg i) A (by omega) (by omega) (by omega)
    refine ⟨g2, ?_, _, A2, fun t ht => ?_, fun q hq => (f2 q hq).trans (f1 q hq)⟩
    · rw [LX7_shared_38.eq_2, mo_g16 M1, zsn, if_neg (by rw [iZ_le (by omega) (by omega) (by omega) (by omega)]; omega), mo_r18 M1, zsn, mo_r14 M1, zsn, z, zsn, e2, zsn, q1, iZ_add]
    · have et : (i : Int).toNat = i := rfl
      rw [et]
      by_cases c : t = i
      · rw [c, upZ_self]
      · rw [upZ_ne _ _ c]; exact e t (by omega)
  · obtain ⟨st, A, e, f1⟩ := hI
    have M1 := mo_kept hM (f1 _ (by omega))
    rw [LX7_shared_38.eq_2, mo_g16 M1, zsn, ec, if_pos (by exact Int32.le_refl _)]
  · rintro g ⟨e, st, A, es, f1⟩
    exact ⟨g, st, e, A, fun j hj => es j (by omega), f1⟩
/-- what the last loops need -/
def ShH (T : zT) (h : zH) (m : Nat) (v bg sg st fi : Nat → Int) (u w : Nat → Nat → Int) : Prop := (MoAt h m v ∧ Arr T h (m + 10) 82 bg ∧ Arr T h (m + 11) 81 sg ∧ Arr T h (m + 12) 82 st ∧ Arr T h (m + 13) 81 fi) ∧ (RdOk u 81 ∧ RdOk w 81 ∧ SO u ∧ SO w ∧ SgIn u ∧ SgIn w) ∧ (v 15 = u 0 0 ∧ (∀ i : Int, 0 ≤ i → i < u 0 0 → bg (i + 1).toNat - bg i.toNat = wlen u i ∧ bg i.toNat = u 3 i.toNat) ∧ ∀ j : Nat, (j : Int) < u 0 5 → sg j = u 2 j) ∧ (∀ i : Int, 0 ≤ i → i < w 0 0 → st (i + 1).toNat - st i.toNat = wlen w i ∧ st i.toNat = w 3 i.toNat) ∧ ∀ j : Nat, (j : Int) < w 0 5 → fi j = w 2 j
theorem s144_len (H : ShH T h m v bg sg st fi u w) {j i : Int} (j1 : 0 ≤ j) (j2 : j < w 0 0) : zai T h (m + 12) (iZ (j + 1)) = some (iZ (st (j + 1).toNat)) ∧ zai T h (m + 12) (iZ j) = some (iZ (st j.toNat)) := by
  have hw := H.2.1.2.1.2.1
  exact ⟨zai_Arr H.1.2.2.2.1 (by omega) (by omega) (by omega), zai_Arr H.1.2.2.2.1 (by omega) (by omega) (by omega)⟩
theorem s144_0 (H : ShH T h m v bg sg st fi u w) {j i : Int} (j1 : 0 ≤ j) (j2 : j < w 0 0) (z1 z2 : Int32) {ρ : Type} (K : Int32 → Option ρ) (k : Nat) {t : Int} (t1 : 0 ≤ t) (t2 : t ≤ 200) : LX7_shared_144 T h m z1 z2 (iZ j) (iZ i) K (k + 1) (iZ 0) (iZ t) = K (iZ 0) := by
  obtain ⟨e1, e2⟩ := s144_len (i := i) H j1 j2
  rw [LX7_shared_144.eq_2, mo_r17 H.1.1, zsn, q1, iZ_add, e1, zsn, zsn, e2, zsn, iZ_sub, q0]
  by_cases c : iZ (st (j + 1).toNat - st j.toNat) ≤ iZ t
  · rw [if_pos c]
  · rw [if_neg c, if_pos rfl]
theorem s144_1 (H : ShH T h m v bg sg st fi u w) {j i : Int} (i1 : 0 ≤ i) (i2 : i < u 0 0) (j1 : 0 ≤ j) (j2 : j < w 0 0) (hl : wlen u i = wlen w j) (z1 z2 : Int32) {ρ : Type} (K : Int32 → Option ρ) : LX7_shared_144 T h m z1 z2 (iZ j) (iZ i) K FUEL (iZ 1) (iZ 0) = K (iZ (ind (SWd u i w j))) := by
  obtain ⟨e1, e2⟩ := s144_len (i := i) H j1 j2
  have lw := wlen_le H.2.1.2.2.2.1 H.2.1.2.1 j1 j2
  have iw := wlen_in H.2.1.2.2.2.1 H.2.1.2.1 j1 j2
  have iu := wlen_in H.2.1.2.2.1 H.2.1.1 i1 i2
  have w5 : w 0 5 ≤ 81 := H.2.1.2.1.2.2.2.2.2.1
  have u5 : u 0 5 ≤ 81 := H.2.1.1.2.2.2.2.2.1
  have u0 := H.2.1.1.2.1
  obtain ⟨s1, s2⟩ := H.2.2.2.1 j j1 j2
  obtain ⟨b1, b2⟩ := H.2.2.1.2.1 i i1 i2
  have zb : zai T h (m + 10) (iZ i) = some (iZ (bg i.toNat)) := zai_Arr H.1.2.1 (by omega) (by omega) (by omega)
  have step : ∀ (k t : Nat), (t : Int) < wlen w j → LX7_shared_144 T h m z1 z2 (iZ j) (iZ i) K (k + 1) (iZ 1) (iZ t) = if wsg u i t = wsg w j t then LX7_shared_144 T h m z1 z2 (iZ j) (iZ i) K k (iZ 1) (iZ ((t : Int) + 1)) else LX7_shared_144 T h m z1 z2 (iZ j) (iZ i) K k (iZ 0) (iZ ((t : Int) + 1)) := fun k t ht => by
    have eu : wsg u i t = sg (bg i.toNat + t).toNat := by
      unfold wsg
      rw [if_pos ⟨by omega, by omega⟩, b2, H.2.2.1.2.2 _ (by omega)]
    have ew : wsg w j t = fi (st j.toNat + t).toNat := by
      unfold wsg
      rw [if_pos ⟨by omega, by omega⟩, s2, H.2.2.2.2 _ (by omega)]
    have a1 := wsg_sm (p := (t : Int)) H.2.1.2.2.1 H.2.1.1 H.2.1.2.2.2.2.1 i1 i2
    have a2 := wsg_sm (p := (t : Int)) H.2.1.2.2.2.1 H.2.1.2.1 H.2.1.2.2.2.2.2 j1 j2
    have z3 : zai T h (m + 11) (iZ (bg i.toNat + t)) = some (iZ (wsg u i t)) := by rw [eu]; exact zai_Arr H.1.2.2.1 (by omega) (by omega) (by omega)
    have z4 : zai T h (m + 13) (iZ (st j.toNat + t)) = some (iZ (wsg w j t)) := by rw [ew]; exact zai_Arr H.1.2.2.2.2 (by omega) (by omega) (by omega)
    rw [LX7_shared_144.eq_2, mo_r17 H.1.1, zsn, q1, iZ_add, e1, zsn, zsn, e2, zsn, iZ_sub, s1, if_neg (by rw [iZ_le (by omega) (by omega) (by omega) (by omega)]; omega), q0, if_neg (by decide)]
    simp only [zJn]
    rw [mo_r14 H.1.1, zsn, mo_r13 H.1.1, zsn, zb, zsn, iZ_add, z3, zsn, mo_r18 H.1.1, zsn, zsn, e2, zsn, iZ_add, z4, zsn, iZ_add]
    by_cases c : wsg u i t = wsg w j t
    · rw [if_pos (by rw [c]), if_pos c]
    · rw [if_neg (by rw [iZ_eq (by omega) (by omega) (by omega) (by omega)]; exact c), if_neg c]
  refine Or.elim (loop_seek (L := fun k z => LX7_shared_144 T h m z1 z2 (iZ j) (iZ i) K k (iZ 1) z) (K0 := K (iZ 0)) (K1 := K (iZ 1)) (P := fun t => wsg u i t ≠ wsg w j t) (n := (wlen w j).toNat) (by omega) (fun k t ht hp => ?_) (fun k t ht hp => ?_) (fun k => ?_)) ?_ ?_
  · show LX7_shared_144 T h m z1 z2 (iZ j) (iZ i) K (k + 1 + 1) (iZ 1) (iZ t) = K (iZ 0)
    rw [step (k + 1) t (by omega), if_neg hp, s144_0 H j1 j2 z1 z2 K k (by omega) (by omega)]
  · show LX7_shared_144 T h m z1 z2 (iZ j) (iZ i) K (k + 1) (iZ 1) (iZ t) = _
    rw [step k t (by omega), if_pos (Classical.not_not.mp hp)]
  · show LX7_shared_144 T h m z1 z2 (iZ j) (iZ i) K (k + 1) (iZ 1) (iZ ((wlen w j).toNat : Nat)) = K (iZ 1)
    rw [LX7_shared_144.eq_2, mo_r17 H.1.1, zsn, q1, iZ_add, e1, zsn, zsn, e2, zsn, iZ_sub, s1, if_pos (by rw [iZ_le (by omega) (by omega) (by omega) (by omega)]; omega)]
  · rintro ⟨⟨t, t1, t2⟩, e⟩
    rw [ind_f (fun z => t2 (z.2 t (by omega)))]
    exact e
  · rintro ⟨t1, e⟩
    rw [ind_t ⟨hl, fun t ht => Classical.not_not.mp (t1 t (by omega))⟩]
    exact e
theorem s85 (H : ShH T h m v bg sg st fi u w) {j : Int} (j1 : 0 ≤ j) (j2 : j < w 0 0) (z1 z2 : Int32) {ρ : Type} (K : Int32 → Option ρ) : LX7_shared_85 T h m z1 z2 (iZ j) K FUEL (iZ 0) (iZ 0) = K (iZ (ind (∃ i : Nat, (i : Int) < u 0 0 ∧ SWd u i w j))) := by
  obtain ⟨e1, e2⟩ := s144_len (i := 0) H j1 j2
  have lw := wlen_le H.2.1.2.2.2.1 H.2.1.2.1 j1 j2
  have u0 := H.2.1.1.1
  have u1 := H.2.1.1.2.1
  obtain ⟨s1, s2⟩ := H.2.2.2.1 j j1 j2
  have v15 := H.2.2.1.1
  have step : ∀ (k t : Nat), (t : Int) < u 0 0 → LX7_shared_85 T h m z1 z2 (iZ j) K (k + 1) (iZ 0) (iZ t) = LX7_shared_85 T h m z1 z2 (iZ j) K k (iZ (ind (SWd u t w j))) (iZ ((t : Int) + 1)) := fun k t ht => by
    have lu := wlen_le H.2.1.2.2.1 H.2.1.1 (i := t) (by omega) ht
    obtain ⟨b1, b2⟩ := H.2.2.1.2.1 t (by omega) ht
    have za : zai T h (m + 10) (iZ ((t : Int) + 1)) = some (iZ (bg ((t : Int) + 1).toNat)) := zai_Arr H.1.2.1 (by omega) (by omega) (by omega)
    have zb : zai T h (m + 10) (iZ (t : Int)) = some (iZ (bg (t : Int).toNat)) := zai_Arr H.1.2.1 (by omega) (by omega) (by omega)
    rw [LX7_shared_85.eq_2, mo_g15 H.1.1, zsn, v15, if_neg (by rw [iZ_le (by omega) (by omega) (by omega) (by omega)]; omega), q0, if_pos rfl]
    simp only [zJn]
    rw [mo_r13 H.1.1, zsn, q1, iZ_add, za, zsn, zsn, zb, zsn, mo_r17 H.1.1, zsn, iZ_add, e1, zsn, zsn, e2, zsn, iZ_sub, iZ_sub, b1, s1]
    by_cases c : wlen u t = wlen w j
    · rw [if_pos (by rw [c]), s144_1 H (by omega) ht j1 j2 c]
    · rw [if_neg (by rw [iZ_eq (by omega) (by omega) (by omega) (by omega)]; exact c), show FUEL = 9999 + 1 from rfl, s144_0 H j1 j2 z1 z2 _ 9999 (by omega) (by omega), ind_f (fun z => c z.1)]
  refine Or.elim (loop_seek (L := fun k z => LX7_shared_85 T h m z1 z2 (iZ j) K k (iZ 0) z) (K0 := K (iZ 1)) (K1 := K (iZ 0)) (P := fun t => SWd u t w j) (n := (u 0 0).toNat) (by omega) (fun k t ht hp => ?_) (fun k t ht hp => ?_) (fun k => ?_)) ?_ ?_
  · show LX7_shared_85 T h m z1 z2 (iZ j) K (k + 1 + 1) (iZ 0) (iZ t) = K (iZ 1)
    rw [step (k + 1) t (by omega), ind_t hp, LX7_shared_85.eq_2, mo_g15 H.1.1, zsn, q0, if_neg (show ¬ iZ 1 = iZ 0 by decide)]
    by_cases c : iZ (v 15) ≤ iZ ((t : Int) + 1)
    · rw [if_pos c]
    · rw [if_neg c]
  · show LX7_shared_85 T h m z1 z2 (iZ j) K (k + 1) (iZ 0) (iZ t) = _
    rw [step k t (by omega), ind_f hp]
  · show LX7_shared_85 T h m z1 z2 (iZ j) K (k + 1) (iZ 0) (iZ ((u 0 0).toNat : Nat)) = K (iZ 0)
    rw [LX7_shared_85.eq_2, mo_g15 H.1.1, zsn, v15, if_pos (by rw [iZ_le (by omega) (by omega) (by omega) (by omega)]; omega)]
  · rintro ⟨⟨t, t1, t2⟩, e⟩
    rw [ind_t ⟨t, by omega, t2⟩]
    exact e
  · rintro ⟨t1, e⟩
    rw [ind_f (fun z => by obtain ⟨i, z1, z2⟩ := z; exact t1 i (by omega) z2)]
    exact e
theorem s74 (H : ShH T h m v bg sg st fi u w) {ρ : Type} (K : Int32 → Option ρ) : LX7_shared_74 T h m (iZ (w 0 0)) K FUEL (iZ 0) (iZ 0) = K (iZ (shv u w)) := by
  have w0 := H.2.1.2.1.1
  have w1 := H.2.1.2.1.2.1
  unfold shv
  refine (loop_sum0 (L := LX7_shared_74 T h m (iZ (w 0 0)) K) (K := K) (g := fun j => ind (∃ i : Nat, (i : Int) < u 0 0 ∧ SWd u i w j)) (n := (w 0 0).toNat) (by omega) (fun k t i hi => ?_) (fun k t => ?_) 0).trans (by rw [Int.zero_add])
  · rw [LX7_shared_74.eq_2, if_neg (by rw [iZ_le (by omega) (by omega) (by omega) (by omega)]; omega), q0, s85 H (j := i) (by omega) (by omega)]
    simp only [zJn]
    rw [q1, iZ_add, iZ_add, iZ_add]
    rcases ind_in (∃ i' : Nat, (i' : Int) < u 0 0 ∧ SWd u i' w i) with e | e
    · rw [e, if_pos rfl]
    · rw [e, if_neg (by decide)]
  · rw [LX7_shared_74.eq_2, if_pos (by rw [iZ_le (by omega) (by omega) (by omega) (by omega)]; omega)]
end Sk
section Sl
variable {T : zT} {h : zH} {b o : Nat} {n : Int} {tx : Nat → Int} {d : Nat → Nat → Int} {cnt nxt : Int} {dd : Nat → Nat → Nat → Int} {fl : Nat → Int} {ds : Nat → Nat → Nat → Int} {fs v tx7 r D kp kb : Nat → Int} {x : Int64}
theorem c_shared (S : St T h b o n tx d cnt nxt dd fl ds fs v tx7 r D kp kb x) (R : Rel n tx d cnt nxt dd fl ds fs v tx7 r D kp kb) : Rn2 T b o (FX6_shared T b h) (FX7_shared T (b + 354)) := by
  have hO := R.2.1.1
  have hP := R.2.1.2
  obtain ⟨h1, w0, e1, R1, S1, N1⟩ := S.rp hO (L := 0) (by omega)
  obtain ⟨h2, u0, e2, R2, f2, S2, N2⟩ := S1.rp2 hO (L := 1) (by omega)
  have R1' := R1.kept (h' := h2) (fun q q1 q2 => f2 q (by omega))
  have oW := rdok (L := 0) hO N1
  have oU := rdok (L := 1) hO N2
  have sW := rdso (L := 0) hO N1
  have sU := rdso (L := 1) hO N2
  have gW := rdsg (L := 0) hO N1
  have gU := rdsg (L := 1) hO N2
  have e1' : FX6_readPresent T b (iZ 0) h = _ := e1
  have e2' : FX2_readLetter T (b + 343) (b + 4) (iZ 1) (iZ (d 0 3)) h1 = _ := e2
  obtain ⟨k1, g1, M1, f1⟩ := mo_set S2.mo0 (k := 0) (by omega) 0
  have K1 := S2.mo M1 f1
  have R1v := R.vv (v' := upZ v 0 0) (upZ_ne _ _ (by decide)) (upZ_ne _ _ (by decide))
  obtain ⟨bg0, sg0, wo0, H0⟩ := K1.wh
  obtain ⟨k2, v2, bg, sg, wo, g2, H2, D2, lo2, f2'⟩ := layNow_eq H0 hP hO (L := 0) (by omega) N1
  have g2' : FX7_layNow T (b + 354) (iZ 0) k1 = _ := g2
  have K2 := K1.lay H2 f2'
  have A12 : ∃ f, Arr T k2 (b + 354 + 12) 82 f := K2.2.2.1 13 (by omega)
  obtain ⟨k3, st, g3, A3, hst, f3⟩ := sh13 (T := T) H2.1 H2.2.1 A12 oW.1 oW.2.1 (fun (h13 : zH) => LX7_shared_38 T (b + 354) (iZ (wall d (0 : Nat) (d 3 0) w0 (nL d (d 3 0)) 0 0)) (fun (h23 : zH) => zb2 (FX7_layNow T (b + 354) (iZ 1) h23) fun x25 h26 => LX7_shared_74 T h26 (b + 354) (iZ (wall d (0 : Nat) (d 3 0) w0 (nL d (d 3 0)) 0 0)) (fun (x77 : Int32) => some (x77, h26)) FUEL (iZ 0) (iZ 0)) FUEL (iZ 0) h13)
  have K3 := K2.sc (i := 13) (by omega) ⟨_, A3⟩ (fun q hq => f3 q (by rw [show slo 13 = 366 from rfl, show shi 13 = 366 from rfl] at hq; omega))
  have A13 : ∃ f, Arr T k3 (b + 354 + 13) 81 f := K3.2.2.1 14 (by omega)
  have v16 := D2.2.1
  have sg3 : Arr T k3 (b + 354 + 11) 81 sg := H2.2.2.1.kept (f3 _ (by omega))
  have w5a : 0 ≤ v2 16 := by rw [v16]; exact oW.2.2.2.2.1
  have w5b : v2 16 ≤ 81 := by rw [v16]; exact oW.2.2.2.2.2.1
  obtain ⟨k4, fi, g4, A4, hfi, f4⟩ := sh38 (T := T) K3.mo0 sg3 A13 w5a w5b (iZ (wall d (0 : Nat) (d 3 0) w0 (nL d (d 3 0)) 0 0)) (fun (h23 : zH) => zb2 (FX7_layNow T (b + 354) (iZ 1) h23) fun x25 h26 => LX7_shared_74 T h26 (b + 354) (iZ (wall d (0 : Nat) (d 3 0) w0 (nL d (d 3 0)) 0 0)) (fun (x77 : Int32) => some (x77, h26)) FUEL (iZ 0) (iZ 0))
  have K4 := K3.sc (i := 14) (by omega) ⟨_, A4⟩ (fun q hq => f4 q (by rw [show slo 14 = 367 from rfl, show shi 14 = 367 from rfl] at hq; omega))
  obtain ⟨bg4, sg4, wo4, H4⟩ := K4.wh
  obtain ⟨k5, v5, bg5, sg5, wo5, g5, H5, D5, lo5, f5⟩ := layNow_eq H4 hP hO (L := 1) (by omega) N2
  have g5' : FX7_layNow T (b + 354) (iZ 1) k4 = _ := g5
  have K5 := K4.lay H5 f5
  have A12' : Arr T k5 (b + 354 + 12) 82 st := (A3.kept (f4 _ (by omega))).kept (f5 _ (by omega) (by omega) (by omega) (by omega))
  have A13' : Arr T k5 (b + 354 + 13) 81 fi := A4.kept (f5 _ (by omega) (by omega) (by omega) (by omega))
  have HH : ShH T k5 (b + 354) v5 bg5 sg5 st fi (wall d (1 : Nat) (d 3 1) u0 (nL d (d 3 1))) (wall d (0 : Nat) (d 3 0) w0 (nL d (d 3 0))) := by
    refine ⟨⟨H5.1, H5.2.1, H5.2.2.1, A12', A13'⟩, ⟨oU, oW, sU, sW, gU, gW⟩, ⟨D5.1, fun i i1 i2 => ⟨wds_len D5 i1 i2, D5.2.2.1 _ (by omega)⟩, D5.2.2.2.2.1⟩, fun i i1 i2 => ⟨?_, ?_⟩, fun j hj => ?_⟩
    · rw [hst _ (by omega), hst _ (by omega)]
      exact wds_len D2 i1 i2
    · rw [hst _ (by omega)]
      exact D2.2.2.1 _ (by omega)
    · rw [hfi j (by omega)]
      exact D2.2.2.2.2.1 j hj
  refine ⟨iZ (shv (wall d (1 : Nat) (d 3 1) u0 (nL d (d 3 1))) (wall d (0 : Nat) (d 3 0) w0 (nL d (d 3 0)))), h2, k5, ?_, ?_, _, _, K5.fin (R1v.vv ((lo5 2 (by omega)).trans (lo2 2 (by omega))) ((lo5 9 (by omega)).trans (lo2 9 (by omega)))) rfl⟩
  · unfold FX6_shared
    rw [cs_zo S.cs0, zsn, q0, e1', zb2n, cs_r9 S1.cs0, zsn, cs_r3 S1.cs0, zsn, zsn, sh_g3 S1.sh0, zsn, q1, e2', zb2n]
    exact sh6 S2.cs0 R2 R1' oU oW sU sW gU gW (fun (x23 : Int32) => some (x23, h2))
  · unfold FX7_shared
    rw [mo_zo S2.mo0, zsn, q0, g1, zsn, g2', zb2n, q1]
    refine Eq.trans (show _ = _ from g3) (Eq.trans (show _ = _ from g4) ?_)
    rw [g5', zb2n]
    exact s74 HH (fun (x77 : Int32) => some (x77, k5))
end Sl
