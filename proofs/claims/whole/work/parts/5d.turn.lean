/-! calls: turn, undo -/
section C7
variable {T : zT} {h : zH} {b o : Nat} {n : Int} {tx : Nat → Int} {d : Nat → Nat → Int} {cnt nxt : Int} {dd : Nat → Nat → Nat → Int} {fl : Nat → Int} {ds : Nat → Nat → Nat → Int} {fs v tx7 r D kp kb : Nat → Int} {x : Int64}
variable {h' : zH}
theorem St.turned (S : St T h b o n tx d cnt nxt dd fl ds fs v tx7 r D kp kb x) {d' e : Nat → Nat → Int} (M : ShAt T h' (b + 4) d') (E : ShAt T h' (b + 38) e) (f : ∀ q, (q < b + 4 ∨ b + 4 + 16 < q) → (q < b + 38 ∨ b + 38 + 16 < q) → h' q = h q) : St T h' b o n tx d' cnt nxt dd fl ds fs v tx7 r D kp kb x := by
  obtain ⟨s1, s2, s3, s4, s5⟩ := S
  refine ⟨⟨cs_kept s1.1 (f _ (by omega) (by omega)), s1.2.1.kept (f _ (by omega) (by omega)) (f _ (by omega) (by omega)), M, hs_kept s1.2.2.2.1 (fun q q1 q2 => f q (by omega) (by omega)), s1.2.2.2.2.kept (fun q q1 q2 => f q (by omega) (by omega)) (by omega)⟩, s2.kept (fun q hq => f q (by unfold mA at hq; omega) (by unfold mA at hq; omega)), ?_, ov_kept s4 (f _ (by omega) (by omega)), s5⟩
  intro j hj
  have g : ∀ k : Nat, k < 15 → (k = 2 ∨ (shi k < 4 ∨ 20 < slo k) ∧ (shi k < 38 ∨ 54 < slo k)) := by decide
  by_cases j1 : j = 2
  · rw [j1]; exact ⟨_, E⟩
  have gj := g j hj
  exact SC1.kept hj (s3 j hj) (fun q q1 q2 => f q (by omega) (by omega))
theorem St.turned7 (S : St T h b o n tx d cnt nxt dd fl ds fs v tx7 r D kp kb x) {r' R7 : Nat → Int} (M : Arr T h' (b + 354 + 3) 739 r') (E : Arr T h' (b + 354 + 5) 739 R7) (f : ∀ q, q ≠ b + 354 + 3 → q ≠ b + 354 + 5 → h' q = h q) : St T h' b o n tx d cnt nxt dd fl ds fs v tx7 r' D kp kb x := by
  obtain ⟨s1, s2, s3, s4, s5⟩ := S
  refine ⟨s1.kept (fun q hq => f q (by unfold cA at hq; omega) (by unfold cA at hq; omega)), ⟨mo_kept s2.1 (f _ (by omega) (by omega)), s2.2.1.kept (f _ (by omega) (by omega)), M, s2.2.2.2.1.kept (f _ (by omega) (by omega)), s2.2.2.2.2.1.kept (f _ (by omega) (by omega)), (f _ (by omega) (by omega)).trans s2.2.2.2.2.2⟩, ?_, ov_kept s4 (f _ (by omega) (by omega)), s5⟩
  intro j hj
  have g : ∀ k : Nat, k < 15 → (k = 9 ∨ (shi k < 357 ∨ 357 < slo k) ∧ (shi k < 359 ∨ 359 < slo k)) := by decide
  by_cases j1 : j = 9
  · rw [j1]; exact ⟨_, E⟩
  have gj := g j hj
  exact SC1.kept hj (s3 j hj) (fun q q1 q2 => f q (by omega) (by omega))
theorem St.back (S : St T h b o n tx d cnt nxt dd fl ds fs v tx7 r D kp kb x) {cnt' nxt' : Int} {d' : Nat → Nat → Int} (H : HsAt T h' (b + 55) cnt' nxt' dd fl) (M : ShAt T h' (b + 4) d') (f : ∀ q, q ≠ b + 55 → (q < b + 4 ∨ b + 4 + 16 < q) → h' q = h q) : St T h' b o n tx d' cnt' nxt' dd fl ds fs v tx7 r D kp kb x := by
  obtain ⟨s1, s2, s3, s4, s5⟩ := S
  exact ⟨⟨cs_kept s1.1 (f _ (by omega) (by omega)), s1.2.1.kept (f _ (by omega) (by omega)) (f _ (by omega) (by omega)), M, H, s1.2.2.2.2.kept (fun q q1 q2 => f q (by omega) (by omega)) (by omega)⟩, s2.kept (fun q hq => f q (by unfold mA at hq; omega) (by unfold mA at hq; omega)), s3.kept (fun q q1 q2 q3 => f q (by unfold cA at q1; omega) (by unfold cA at q1; omega)), ov_kept s4 (f _ (by omega) (by omega)), s5⟩
/-- the words of both letters, of any page -/
theorem allW_eq {m a : Nat} {bg sg wo r7 : Nat → Int} {w0 w1 : Nat → Nat → Int} (H : WH T h m a r7 v bg sg wo) (n1 : a ≠ m) (n2 : a ≠ m + 9) (n3 : a ≠ m + 10) (n4 : a ≠ m + 11) (hP : Pg d r7) (hO : OkD d) (N0 : RdNew w0) (N1 : RdNew w1) : ∃ k' v' bg' sg' wo', FX7_allWords T m a h = some (iZ (wall d (0 : Nat) (d 3 0) w0 (nL d (d 3 0)) 0 0 + wall d (1 : Nat) (d 3 1) w1 (nL d (d 3 1)) 0 0), k') ∧ WH T k' m a r7 v' bg' sg' wo' ∧ (∀ j, j < 15 → v' j = v j) ∧ offW m h k' := by
  obtain ⟨k1, v1, bg1, sg1, wo1, e1, H1, D1, lo1, f1⟩ := layWords_eq H n1 n2 n3 n4 hP hO (L := 0) (by omega) N0
  obtain ⟨k2, v2, bg2, sg2, wo2, e2, H2, D2, lo2, f2⟩ := layWords_eq H1 n1 n2 n3 n4 hP hO (L := 1) (by omega) N1
  refine ⟨k2, v2, bg2, sg2, wo2, ?_, H2, fun j hj => (lo2 j hj).trans (lo1 j hj), f1.trans f2⟩
  have g3 : zai T h a (iZ 3) = some (iZ (d 0 3)) := by rw [zai_p H.2.2.2.2 (by omega) (by omega), ← hP.1.g]; rfl
  have g4 : zai T k1 a (iZ 3) = some (iZ (d 0 3)) := by rw [zai_p H1.2.2.2.2 (by omega) (by omega), ← hP.1.g]; rfl
  have e1' : FX7_layWords T m a (iZ 0) (iZ (d 0 3)) h = _ := e1
  have e2' : FX7_layWords T m a (iZ 1) (iZ (d 0 3)) k1 = _ := e2
  unfold FX7_allWords
  rw [q3, g3, zsn, q0, e1', zb2n, g4, zsn, q1, e2', zb2n, iZ_add]
theorem c_turn (S : St T h b o n tx d cnt nxt dd fl ds fs v tx7 r D kp kb x) (R : Rel n tx d cnt nxt dd fl ds fs v tx7 r D kp kb) : Rn2 T b o (FX6_turn T b h) (FX7_turn T (b + 354)) := by
  have hO := R.2.1.1
  have hP := R.2.1.2
  obtain ⟨h1, d1, e1, hs, S1⟩ := S.rem R
  have S12 : ∃ e, ShAt T h1 (b + 38) e := S1.2.2.1 2 (by omega)
  obtain ⟨e0, E0⟩ := S12
  obtain ⟨h2, d', e, e2, M2, E2, hsd, hT, f2⟩ := turnByQuarter_eq S1.sh0 E0 hO (by omega)
  have S2 := S1.turned M2 E2 f2
  have hOe := OkD_same hsd hO
  have hOd := OkD_turn hOe hT
  obtain ⟨h3, w0, e3, R3, S3, N3⟩ := S2.rp hOd (L := 0) (by omega)
  obtain ⟨h4, w1, e4, R4, S4, N4⟩ := S3.rp hOd (L := 1) (by omega)
  obtain ⟨k1, g1, M1, f1⟩ := mo_set S4.mo0 (k := 0) (by omega) 0
  have K1 := S4.mo M1 f1
  have hv9 : upZ v 0 0 9 = v 9 := upZ_ne _ _ (by decide)
  obtain ⟨c1, c2, -⟩ := R.2.2.1.2.1
  have e9 := R.2.2.1.1
  obtain ⟨k2, v2, D2, g2, M2', v9, vr, A2, q1', q2', f2'⟩ := note_eq K1.mo0 K1.pg0 K1.di0 (by omega) (by omega)
  have K2 := K1.note M2' A2 f2'
  rw [hv9] at v9 q1' q2'
  have A9 : ∃ f, Arr T k2 (b + 354 + 5) 739 f := K2.2.2.1 9 (by omega)
  obtain ⟨s9, B9⟩ := A9
  obtain ⟨k3, r3, R7, g3, A3, B3, hR, f3⟩ := turnOn_eq (mo_ex K2.mo0) (mo_r7 K2.mo0) K2.pg0 B9 (Pg_same hsd hO hP (fun j _ => rfl)) hOe (by omega) (by omega) (by omega)
  have K3 := K2.turned7 A3 B3 f3
  have hPd := Pg_turn hOe hT hR
  obtain ⟨bg, sg, wo, H3⟩ := K3.wh
  obtain ⟨k4, v4, bg4, sg4, wo4, g4, H4, lo4, f4⟩ := allW_eq H3 (by omega) (by omega) (by omega) (by omega) hPd hOd N3 N4
  have K4 := K3.lay H4 f4
  have R4 := R.act hs v9 ((vr 2 (by decide)).trans (upZ_ne _ _ (by decide))) q1' q2' hOd hPd
  refine ⟨iZ (wall d' (0 : Nat) (d' 3 0) w0 (nL d' (d' 3 0)) 0 0 + wall d' (1 : Nat) (d' 3 1) w1 (nL d' (d' 3 1)) 0 0), h4, k4, ?_, ?_, _, _, K4.fin (R4.vv (lo4 2 (by omega)) (lo4 9 (by omega))) rfl⟩
  · have e3' : FX6_readPresent T b (iZ 0) h2 = _ := e3
    have e4' : FX6_readPresent T b (iZ 1) h3 = _ := e4
    unfold FX6_turn
    rw [cs_zo S.cs0, zsn, cs_r6 S.cs0, zsn, cs_r3 S.cs0, zsn, e1, zsn, cs_r3 S1.cs0, zsn, cs_r5 S1.cs0, zsn, e2, zsn, q0, e3', zb2n, q1, e4', zb2n, iZ_add]
  · unfold FX7_turn
    rw [mo_zo S4.mo0, zsn, q0, g1, zsn, g2, zsn, mo_r5 K2.mo0, zsn, g3, zsn, mo_r5 K3.mo0, zsn, g4, zb2n]
theorem c_undo (S : St T h b o n tx d cnt nxt dd fl ds fs v tx7 r D kp kb x) (R : Rel n tx d cnt nxt dd fl ds fs v tx7 r D kp kb) : Rnd T b o (FL_undo T b o h) (FX7_undo T (b + 354)) := by
  have hO := R.2.1.1
  have hP := R.2.1.2
  have e9 := R.2.2.1.1
  obtain ⟨c1, c2, c3, c4⟩ := R.2.2.1.2.1
  unfold FL_undo
  by_cases g : cnt = 0
  case pos =>
    obtain ⟨j1, g1, J1⟩ := S.no R (c := 1) (by omega) (by omega)
    refine rnd_ex (E := "java/lang/IllegalStateException") (h' := h) (c := 1) (by omega) ?_ ?_ ⟨0, j1, by omega, ?_, J1⟩
    · unfold FX6_undo
      rw [cs_zo S.cs0, zsn, cs_r6 S.cs0, zsn, hs_g0 S.hs0, zsn, q0, if_pos (by rw [g])]
    · rw [if_pos rfl, q1]
    · unfold FX7_undo
      rw [mo_zo S.mo0, zsn]
      simp only [zJn]
      rw [mo_g9 S.mo0, zsn, e9, q0, if_pos (by rw [g]), q1, g1, zb2n, if_neg (by decide)]
  obtain ⟨dir, p1, p2, p3⟩ := DiR_pop R.2.2.1.2 (by omega)
  obtain ⟨h1, d1, e1, H1, M1, hs, f1⟩ := takeBack_eq S.hs0 (by omega) c2 c3 c4 p1 S.sh0 (by omega)
  have S1 := S.back H1 M1 f1
  refine rnd_ok (val := cnt - 1) (by omega) ?_ S1 (fun q K => ?_)
  · unfold FX6_undo
    rw [cs_zo S.cs0, zsn, cs_r6 S.cs0, zsn, hs_g0 S.hs0, zsn, q0, if_neg (by rw [iZ_eq (by omega) (by omega) (by omega) (by omega)]; exact g), zsn, cs_r3 S.cs0, zsn, e1, zsn, cs_r6 S1.cs0, zsn, hs_g0 S1.hs0, zsn]
  · obtain ⟨k1, g1, K1⟩ := K.yes
    have hv9 : upZ v 0 0 9 = v 9 := upZ_ne _ _ (by decide)
    obtain ⟨k2, g2, M2, f2⟩ := mo_set K1.mo0 (k := 9) (by omega) (cnt - 1)
    have K2 := K1.mo M2 f2
    have hw9 : upZ (upZ v 0 0) 9 (cnt - 1) 9 = cnt - 1 := upZ_self _ _ _
    obtain ⟨k3, g3, A3, f3⟩ := copy_eq (p := 739 * (cnt - 1).toNat) (q := 0) K2.di0 K2.pg0 (by omega) (by omega) (by omega) (by omega) (by omega)
    have K3 := K2.page A3 f3
    have hPn : Pg d1 (cpy D r (739 * (cnt - 1).toNat) 0 739) := Pg_same hs p2 p3 (fun j hj => by
      unfold cpy
      rw [if_pos (by omega)]
      congr 1)
    obtain ⟨⟨a1, a2, a3, a4⟩, -, -, a8⟩ := R
    refine ⟨k3, ?_, K3.fin ⟨⟨a1, a2, (by rw [upZ_ne _ _ (by decide), upZ_ne _ _ (by decide)]; exact a3), a4⟩, ⟨OkD_same hs p2, hPn⟩, ⟨hw9, dir⟩, a8⟩ (by rw [upZ_ne _ _ (by decide), upZ_self])⟩
    unfold FX7_undo
    rw [mo_zo K.mo0, zsn]
    simp only [zJn]
    rw [mo_g9 K.mo0, zsn, e9, q0, if_neg (by rw [iZ_eq (by omega) (by omega) (by omega) (by omega)]; exact g), g1, zb2n, if_pos rfl, mo_g9 K1.mo0, zsn, hv9, e9, q1, iZ_sub, g2, zsn, mo_r8 K2.mo0, zsn, mo_g9 K2.mo0, zsn, hw9, mo_r5 K2.mo0, zsn, q739, iZ_mul, show 739 * (cnt - 1) = ((739 * (cnt - 1).toNat : Nat) : Int) from by omega, show FX7_copyPage T (b + 354 + 6) (iZ ((739 * (cnt - 1).toNat : Nat) : Int)) (b + 354 + 3) (iZ 0) k2 = some k3 from g3, zsn, mo_g9 K3.mo0, zsn, hw9]
end C7
