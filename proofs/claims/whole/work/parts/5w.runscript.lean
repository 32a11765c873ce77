/-! call: runScript, as a whole -/
def p5 : Nat → Int
  | 0 => 1
  | n + 1 => p5 n * 100000
theorem p5_pos (n : Nat) : 0 < p5 n := by
  induction n with
  | zero => decide
  | succ n ih => show 0 < p5 n * 100000; omega
theorem div_p5 (z : Int) (n : Nat) : z / p5 (n + 1) = z / p5 n / 100000 := by
  show z / (p5 n * 100000) = _
  rw [Int.ediv_ediv_of_nonneg (Int.le_of_lt (p5_pos n))]
theorem p5_v : p5 0 = 1 ∧ p5 1 = 100000 ∧ p5 2 = 10000000000 ∧ p5 3 = 1000000000000000 := ⟨rfl, by decide, by decide, by decide⟩
theorem l1e5 : (100000 : Int64) = lZ 100000 := rfl
def rJ (x : Int64) : Nat → Int64
  | 0 => x
  | i + 1 => rJ x i / 100000
def gJ (x : Int64) (i : Nat) : Int := ((rJ x i - rJ x i / 100000 * 100000).toInt32).toInt
theorem rJ_eq {z : Int} (z1 : 0 ≤ z) (z2 : z < 9223372036854775808) : ∀ i : Nat, rJ (lZ z) i = lZ (z / p5 i)
  | 0 => by
    show lZ z = lZ (z / 1)
    rw [Int.ediv_one]
  | i + 1 => by
    have h := p5_pos i
    have h1 : 0 ≤ z / p5 i := Int.ediv_nonneg z1 (by omega)
    have h2 : z / p5 i ≤ z := Int.ediv_le_self _ z1
    show rJ (lZ z) i / 100000 = _
    rw [rJ_eq z1 z2 i, l1e5, lZ_div h1 (by omega) (by omega) (by omega), div_p5]
theorem gJ_eq {z : Int} (z1 : 0 ≤ z) (z2 : z < 9223372036854775808) (i : Nat) : gJ (lZ z) i = z / p5 i % 100000 := by
  have h := p5_pos i
  have h1 : 0 ≤ z / p5 i := Int.ediv_nonneg z1 (by omega)
  have h2 : z / p5 i ≤ z := Int.ediv_le_self _ z1
  unfold gJ
  rw [rJ_eq z1 z2, l1e5, lZ_div h1 (by omega) (by omega) (by omega), lZ_mul, lZ_sub, lZ_i32, show z / p5 i - z / p5 i / 100000 * 100000 = z / p5 i % 100000 from by omega, iZ_toInt (by omega) (by omega)]
section Rv
variable {T : zT} {h : zH} {b o : Nat} {n : Int} {tx : Nat → Int} {d : Nat → Nat → Int} {cnt nxt : Int} {dd : Nat → Nat → Nat → Int} {fl : Nat → Int} {ds : Nat → Nat → Nat → Int} {fs v tx7 r D kp kb : Nat → Int} {x : Int64}
theorem scr6 (S : St T h b o n tx d cnt nxt dd fl ds fs v tx7 r D kp kb x) {m : Nat} (m1 : 1 ≤ m) (m2 : m ≤ 3) (y : Int64) : ∃ h' cm, FX6_splitScript T b (iZ m) y h = some (iZ (ind (0 ≤ y.toInt ∧ rJ y m = 0)), h') ∧ Num T h' (b + 352) 3 cm ∧ (∀ t : Nat, t < m → cm (m - 1 - t) = gJ y t) ∧ St T h' b o n tx d cnt nxt dd fl ds fs v tx7 r D kp kb x := by
  have A : ∃ f, Num T h (b + 352) 3 f := S.2.2.1 6 (by omega)
  obtain ⟨w0, A0⟩ := A
  refine Exists.elim (loop_st (L := fun k i (s : Int64 × zH) => LX6_splitScript_8 T b y (fun (x11 : Int64) (h12 : zH) => zJ (fun (x13 : Int32) => if x13 = iZ 0 ∨ x13 = iZ 1 then some (x13, h12) else none) (fun J14 => zJ (fun (u9 : Unit) => J14 (iZ 0)) (fun J15 => if (lg_cmp y (0 : Int64)) < iZ 0 then (J15 ()) else (if (lg_cmp x11 (0 : Int64)) = iZ 0 then (J14 (iZ 1)) else (J15 ()))))) k s.1 (iZ ((m : Int) - 1) - i) s.2) (K := fun s => (fun (x11 : Int64) (h12 : zH) => zJ (fun (x13 : Int32) => if x13 = iZ 0 ∨ x13 = iZ 1 then some (x13, h12) else none) (fun J14 => zJ (fun (u9 : Unit) => J14 (iZ 0)) (fun J15 => if (lg_cmp y (0 : Int64)) < iZ 0 then (J15 ()) else (if (lg_cmp x11 (0 : Int64)) = iZ 0 then (J14 (iZ 1)) else (J15 ()))))) s.1 s.2) (I := fun j s => s.1 = rJ y j ∧ ∃ wn, Num T s.2 (b + 352) 3 wn ∧ (∀ t : Nat, t < j → wn (m - 1 - t) = gJ y t) ∧ St T s.2 b o n tx d cnt nxt dd fl ds fs v tx7 r D kp kb x) (n := m) (by omega) (fun k i s hi hI => ?_) (fun k s hI => ?_) (s := (y, h)) ⟨rfl, w0, A0, fun t ht => by omega, S⟩) ?_
  · obtain ⟨e1, wn, A1, e3, S1⟩ := hI
    obtain ⟨h2, g2, A2, f2⟩ := put_in (i := (m : Int) - 1 - i) (v := gJ y i) A1 (by omega) (by omega) (by omega)
    have S2 := S1.sc (i := 6) (by omega) ⟨_, A2⟩ (fun q hq => f2 q (by rw [show slo 6 = 352 from rfl, show shi 6 = 353 from rfl] at hq; omega))
    have ep : (rJ y i - rJ y i / 100000 * 100000).toInt32 = iZ (gJ y i) := (iZ_of _).symm
    have ez : zremL (rJ y i) 100000 = some (rJ y i - rJ y i / 100000 * 100000) := if_neg (by decide)
    have ed : zdivL (rJ y i) 100000 = some (rJ y i / 100000) := if_neg (by decide)
    refine ⟨(rJ y (i + 1), h2), ?_, rfl, _, A2, fun t ht => ?_, S2⟩
    · show LX6_splitScript_8 T b y _ (k + 1) s.1 (iZ ((m : Int) - 1) - iZ i) s.2 = _
      rw [e1, LX6_splitScript_8.eq_2, iZ_sub, q0, if_neg (by rw [iZ_lt (by omega) (by omega) (by omega) (by omega)]; omega), cs_r11 S1.cs0, zsn, ez, zsn, ep, g2, zsn, ed, zsn, qm1, iZ_add]
      show LX6_splitScript_8 T b y _ k (rJ y i / 100000) (iZ ((m : Int) - 1 - i + -1)) h2 = LX6_splitScript_8 T b y _ k (rJ y i / 100000) (iZ ((m : Int) - 1) - iZ ((i : Int) + 1)) h2
      rw [iZ_sub, show (m : Int) - 1 - ((i : Int) + 1) = (m : Int) - 1 - i + -1 from by omega]
    · have ec : ((m : Int) - 1 - i).toNat = m - 1 - i := by omega
      rw [ec]
      by_cases c : t = i
      · rw [c, upZ_self]
      · rw [upZ_ne _ _ (by omega)]; exact e3 t (by omega)
  · show LX6_splitScript_8 T b y _ (k + 1) s.1 (iZ ((m : Int) - 1) - iZ m) s.2 = _
    rw [LX6_splitScript_8.eq_2, iZ_sub, q0, if_pos (by rw [iZ_lt (by omega) (by omega) (by omega) (by omega)]; omega)]
  · rintro s ⟨e0, e1, wn, A1, e3, S1⟩
    refine ⟨s.2, wn, ?_, A1, e3, S1⟩
    unfold FX6_splitScript
    rw [cs_zo S.cs0, zsn, q0, q1, iZ_sub]
    rw [iZ_sub, Int.sub_zero] at e0
    refine Eq.trans (show _ = _ from e0) ?_
    simp only [zJn]
    rw [e1]
    have hy0 : (lg_cmp y 0 < iZ 0) ↔ ¬ 0 ≤ y.toInt := by
      rw [← q0, lg_lt, Int64.lt_iff_toInt_lt, show (0 : Int64).toInt = 0 from rfl]
      omega
    by_cases c : 0 ≤ y.toInt
    · rw [if_neg (fun z => hy0.mp z c)]
      by_cases c2 : rJ y m = 0
      · rw [if_pos (show lg_cmp (rJ y m) 0 = iZ 0 from lg_eq0.mpr c2), if_pos (Or.inr trivial), ind_t ⟨c, c2⟩]
      · rw [if_neg (show ¬ lg_cmp (rJ y m) 0 = iZ 0 from fun z => c2 (lg_eq0.mp z)), if_pos (Or.inl trivial), ind_f (fun z => c2 z.2)]
    · rw [if_pos (hy0.mpr c), if_pos (Or.inl trivial), ind_f (fun z => c z.1)]
theorem grp_eq {z : Int} (z1 : 0 ≤ z) {j : Nat} (hj : j < 3) : z % p5 (j + 1) / p5 j = z / p5 j % 100000 ∧ z % p5 (j + 1) % p5 j = z % p5 j ∧ p5 (j + 1) / 100000 = p5 j ∧ (1 ≤ p5 j ∧ p5 j ≤ 10000000000) ∧ p5 (j + 1) ≤ 1000000000000000 := by
  obtain ⟨v0, v1, v2, v3⟩ := p5_v
  rcases (show j = 0 ∨ j = 1 ∨ j = 2 by omega) with rfl | rfl | rfl
  · rw [v0, v1]; omega
  · rw [v1, v2]; omega
  · rw [v2, v3]; omega
theorem script_loop {m : Nat} (m2 : m ≤ 3) {z : Int} (z1 : 0 ≤ z) (z2 : z < 1000000000000000) {cm : Nat → Int} (hcm : ∀ t : Nat, t < m → cm t = z / p5 (m - 1 - t) % 100000) : ∀ (q i k6 : Nat) (h : zH) (e : Nat → Nat → Int), i + q = m → q + 1 < k6 → St T h b o n tx d cnt nxt dd fl ds fs v tx7 r D kp kb x → ShAt T h (b + 21) e → OkD e → Num T h (b + 352) 3 cm → ∃ y h', LX6_runScript_40 T b (iZ m) (fun (x21 : Int32) (h22 : zH) => some (Except.ok (ε := String) x21, h22)) (fun (h23 : zH) => some (Except.ok (ε := String) (iZ (-9)), h23)) k6 (iZ i) h = some (.ok (iZ y), h') ∧ (-9 ≤ y ∧ y ≤ 3) ∧ St T h' b o n tx d cnt nxt dd fl ds fs v tx7 r D kp kb x ∧ ∀ (k7 : Nat) (k : zH) (v9 : Nat → Int) (x9 : Int64) (rt : Nat → Int), q + 1 < k7 → St T k b o n tx d cnt nxt dd fl ds fs v9 tx7 r D kp kb x9 → Arr T k (b + 354 + 4) 739 rt → Pg e rt → ∃ k' v', LX7_runScript_84 T (b + 354) (iZ m) (fun (x34 : Int32) (h35 : zH) => some (x34, h35)) (fun (h36 : zH) => some (iZ (-9), h36)) k7 (lZ (p5 (m - i))) (lZ (z % p5 (m - i))) (iZ i) k = some (iZ y, k') ∧ St T k' b o n tx d cnt nxt dd fl ds fs v' tx7 r D kp kb x9 ∧ ∀ j, j < 15 → v' j = v9 j := by
  intro q
  induction q with
  | zero =>
    intro i k6 h e h1 h2 S M hO B
    obtain ⟨k6, rfl⟩ : ∃ u, k6 = u + 1 := ⟨k6 - 1, by omega⟩
    have ei : i = m := by omega
    refine ⟨-9, h, ?_, by omega, S, fun k7 k v9 x9 rt hk K A Q => ⟨k, v9, ?_, K, fun _ _ => rfl⟩⟩
    · rw [LX6_runScript_40.eq_2, ei, if_pos (by exact Int32.le_refl _)]
    · obtain ⟨k7, rfl⟩ : ∃ u, k7 = u + 1 := ⟨k7 - 1, by omega⟩
      rw [LX7_runScript_84.eq_2, ei, if_pos (by exact Int32.le_refl _)]
  | succ q ih =>
    intro i k6 h e h1 h2 S M hO B
    obtain ⟨k6, rfl⟩ : ∃ u, k6 = u + 1 := ⟨k6 - 1, by omega⟩
    obtain ⟨j, ej⟩ : ∃ j, m - i = j + 1 := ⟨m - i - 1, by omega⟩
    obtain ⟨g, hg⟩ : ∃ g, g = z / p5 j % 100000 := ⟨_, rfl⟩
    obtain ⟨r1, r2, r3, r4, r5⟩ := grp_eq z1 (j := j) (by omega)
    have g1 : 0 ≤ g ∧ g < 100000 := by omega
    have ec : cm i = g := by rw [hcm i (by omega), hg, show m - 1 - i = j from by omega]
    have ea : FX1_at T (b + 352) (iZ i) h = some (iZ g) := by rw [← ec]; exact at_in B (by omega) (by omega) (by omega)
    obtain ⟨h', ok, e', c1, c2, M', hO', S', ⟨f1, f2⟩, SM⟩ := cmd_any S M hO g1.1 g1.2
    have z3 : 0 ≤ z % p5 (j + 1) := Int.emod_nonneg _ (by have := p5_pos (j + 1); omega)
    have z4 : z % p5 (j + 1) < p5 (j + 1) := Int.emod_lt_of_pos _ (p5_pos (j + 1))
    have hp := p5_pos j
    have run7 : ∀ (k7 : Nat) (k : zH) (v9 : Nat → Int) (x9 : Int64) (rt : Nat → Int), St T k b o n tx d cnt nxt dd fl ds fs v9 tx7 r D kp kb x9 → Arr T k (b + 354 + 4) 739 rt → Pg e rt → ∃ k' v' rt', LX7_runScript_84 T (b + 354) (iZ m) (fun (x34 : Int32) (h35 : zH) => some (x34, h35)) (fun (h36 : zH) => some (iZ (-9), h36)) (k7 + 1) (lZ (p5 (m - i))) (lZ (z % p5 (m - i))) (iZ i) k = (if iZ ok = iZ 0 then some (iZ i, k') else LX7_runScript_84 T (b + 354) (iZ m) (fun (x34 : Int32) (h35 : zH) => some (x34, h35)) (fun (h36 : zH) => some (iZ (-9), h36)) k7 (lZ (p5 j)) (lZ (z % p5 j)) (iZ ((i : Int) + 1)) k') ∧ St T k' b o n tx d cnt nxt dd fl ds fs v' tx7 r D kp kb x9 ∧ (∀ j, j < 15 → v' j = v9 j) ∧ Arr T k' (b + 354 + 4) 739 rt' ∧ Pg e' rt' := fun k7 k v9 x9 rt K A Q => by
      obtain ⟨at9, w1, w2⟩ := does_DB (T := T) K.mo0 (how := g / 10000) (a := g / 1000 % 10) (y := g / 100 % 10) (c := g / 10 % 10) (q := g % 10) (by omega) (by omega) (by omega) (by omega)
      obtain ⟨k', v', rt', d1, K', lo, A', Q'⟩ := SM k v9 x9 rt at9 K A Q w1
      obtain ⟨⟨n1, n2, n3, n4⟩, n5, n6, n7, n8⟩ := digs g1.1 g1.2
      refine ⟨k', v', rt', ?_, K', lo, A', Q'⟩
      rw [LX7_runScript_84.eq_2, if_neg (by rw [iZ_le (by omega) (by omega) (by omega) (by omega)]; omega), ej, l1e5, zdivL_lZ (by omega) (by omega) (by omega) (by omega), zsn, r3, zdivL_lZ z3 (by omega) (by omega) (by omega), zsn, zremL_lZ z3 (by omega) (by omega) (by omega), zsn, r1, r2, lZ_i32, ← hg, q10000, n8, zsn, q1000', n1, zsn, q10, n2, zsn, q100, n3, zsn, n4, zsn, n5, zsn, n6, zsn, n7, zsn, w2, d1, zb2n, q0, q1, iZ_add]
    have head : LX6_runScript_40 T b (iZ m) (fun (x21 : Int32) (h22 : zH) => some (Except.ok (ε := String) x21, h22)) (fun (h23 : zH) => some (Except.ok (ε := String) (iZ (-9)), h23)) (k6 + 1) (iZ i) h = (if iZ ok = iZ 0 then some (Except.ok (ε := String) (iZ i), h') else LX6_runScript_40 T b (iZ m) (fun (x21 : Int32) (h22 : zH) => some (Except.ok (ε := String) x21, h22)) (fun (h23 : zH) => some (Except.ok (ε := String) (iZ (-9)), h23)) k6 (iZ ((i : Int) + 1)) h') := by
      rw [LX6_runScript_40.eq_2, if_neg (by rw [iZ_le (by omega) (by omega) (by omega) (by omega)]; omega), cs_r11 S.cs0, zsn, ea, zsn, succ_SB S.cs0 g1.1 g1.2, c1, zb2n, q0, q1, iZ_add]
    rw [head]
    rcases c2 with rfl | rfl
    · refine ⟨i, h', by rw [if_pos rfl], by omega, S', fun k7 k v9 x9 rt hk K A Q => ?_⟩
      obtain ⟨k7, rfl⟩ : ∃ u, k7 = u + 1 := ⟨k7 - 1, by omega⟩
      obtain ⟨k', v', rt', e7, K', lo, A', Q'⟩ := run7 k7 k v9 x9 rt K A Q
      exact ⟨k', v', by rw [e7, if_pos rfl], K', lo⟩
    · obtain ⟨y, h3, e3, hy, S3, nx⟩ := ih (i + 1) k6 h' e' (by omega) (by omega) S' M' hO' (B.kept f1 f2)
      refine ⟨y, h3, ?_, hy, S3, fun k7 k v9 x9 rt hk K A Q => ?_⟩
      · rw [if_neg (show ¬ iZ 1 = iZ 0 by decide)]
        exact e3
      · obtain ⟨k7, rfl⟩ : ∃ u, k7 = u + 1 := ⟨k7 - 1, by omega⟩
        obtain ⟨k', v', rt', e7, K', lo, A', Q'⟩ := run7 k7 k v9 x9 rt K A Q
        obtain ⟨k3, v3, e8, K3, lo3⟩ := nx k7 k' v' x9 rt' (by omega) K' A' Q'
        refine ⟨k3, v3, ?_, K3, fun j hj => (lo3 j hj).trans (lo j hj)⟩
        rw [e7, if_neg (show ¬ iZ 1 = iZ 0 by decide)]
        rw [show m - (i + 1) = j from by omega] at e8
        exact e8
theorem c_runScript (S : St T h b o n tx d cnt nxt dd fl ds fs v tx7 r D kp kb x) (R : Rel n tx d cnt nxt dd fl ds fs v tx7 r D kp kb) (y : Int64) {p : Int} (p1 : -2147483648 ≤ p) (p2 : p < 2147483648) : Rnd T b o (FL_runScript T b (iZ p) y o h) (FX7_runScript T (b + 354) (iZ p) y) := by
  have hO := R.2.1.1
  have hP := R.2.1.2
  have ylo : -9223372036854775808 ≤ y.toInt := y.le_toInt
  have yhi : y.toInt < 9223372036854775808 := y.toInt_lt
  obtain ⟨v0, v1, v2, v3⟩ := p5_v
  unfold FL_runScript
  by_cases gp : 1 ≤ p ∧ p ≤ 3
  case neg =>
    obtain ⟨j1, g1, J1⟩ := S.no R (c := 1) (by omega) (by omega)
    refine rnd_ex (E := "java/lang/IllegalArgumentException") (h' := h) (c := 1) (by omega) ?_ ?_ ⟨0, j1, by omega, ?_, J1⟩
    · unfold FX6_runScript
      rw [cs_zo S.cs0, zsn, q1, q3, chkArg_f p1 p2 (by omega) (by omega) (by omega) (by omega) gp, zbx_er]
    · rw [if_pos rfl, q1]
    · unfold FX7_runScript
      rw [mo_zo S.mo0, zsn]
      simp only [zJn]
      rw [q1, if_neg (by rw [iZ_eq (by omega) (by omega) (by omega) (by omega)]; omega), q2, if_neg (by rw [iZ_eq (by omega) (by omega) (by omega) (by omega)]; omega), iZ_long p1 p2, l1, l3, in_f p1 p2 (by omega) (by omega) (by omega) (by omega) gp, zsn, q0, if_pos rfl, g1, zb2n, if_neg (by decide)]
  obtain ⟨m, rfl⟩ : ∃ m : Nat, p = m := ⟨p.toNat, by omega⟩
  have hm : m = 1 ∨ m = 2 ∨ m = 3 := by omega
  obtain ⟨h1, cm, e1, B1, ew, S1⟩ := scr6 S (m := m) (by omega) (by omega) y
  have pm := p5_pos m
  have pm2 : p5 m ≤ 1000000000000000 := by
    rcases hm with rfl | rfl | rfl
    · rw [v1]; omega
    · rw [v2]; omega
    · rw [v3]; omega
  have ein : ∀ q, FX7_in T y (0 : Int64) (lZ (p5 m) - (1 : Int64)) q = some (iZ (ind (0 ≤ y.toInt ∧ y.toInt ≤ p5 m - 1))) := fun q => by
    rw [l1, l0, lZ_sub]
    have yy := lZ_of y
    by_cases c : 0 ≤ y.toInt ∧ y.toInt ≤ p5 m - 1
    · rw [ind_t c, ← yy]
      exact in64_t ylo yhi (by omega) (by omega) (by omega) (by omega) c
    · rw [ind_f c, ← yy]
      exact in64_f ylo yhi (by omega) (by omega) (by omega) (by omega) c
  have form7 : ∀ (q : zH) (v7 : Nat → Int), MoAt q (b + 354) v7 → FX7_runScript T (b + 354) (iZ m) y q = zb2 (FX7_refused T (b + 354) (iZ (if 0 ≤ y.toInt ∧ y.toInt ≤ p5 m - 1 then 0 else 1)) q) fun x8 h9 => if x8 = iZ 0 then ((zgr h9 (b + 354) 7 5).bind fun x10 => (zgr h9 (b + 354) 7 6).bind fun x11 => (FX7_copyPage T x10 (iZ 0) x11 (iZ 0) h9).bind fun h13 => LX7_runScript_84 T (b + 354) (iZ m) (fun (x34 : Int32) (h35 : zH) => some (x34, h35)) (fun (h36 : zH) => some (iZ (-9), h36)) FUEL (lZ (p5 m)) y (iZ 0) h13) else (some (iZ 0, h9)) := fun q v7 hM => by
    have ei := ein q
    unfold FX7_runScript
    rw [mo_zo hM, zsn]
    simp only [zJn]
    have e3 : FX7_in T (iZ (m : Int)).toInt64 (1 : Int64) (3 : Int64) q = some (iZ 1) := by
      rw [iZ_long p1 p2, l1, l3, in_t (by omega) (by omega) (by omega) (by omega) (by omega) (by omega) gp]
    rcases hm with rfl | rfl | rfl
    · rw [if_pos (show iZ ((1 : Nat) : Int) = 1 from rfl), e3, zsn, q0, if_neg (show ¬ iZ 1 = iZ 0 by decide), show (100000 : Int64) = lZ (p5 1) from rfl, ei, zsn, qm9, q1]
      by_cases c : 0 ≤ y.toInt ∧ y.toInt ≤ p5 1 - 1
      · rw [ind_t c, if_pos c, if_neg (show ¬ iZ 1 = iZ 0 by decide)]
      · rw [ind_f c, if_neg c, if_pos (show iZ 0 = iZ 0 from rfl)]
    · rw [if_neg (show ¬ iZ ((2 : Nat) : Int) = 1 by decide), if_pos (show iZ ((2 : Nat) : Int) = 2 from rfl), e3, zsn, q0, if_neg (show ¬ iZ 1 = iZ 0 by decide), show (10000000000 : Int64) = lZ (p5 2) from rfl, ei, zsn, qm9, q1]
      by_cases c : 0 ≤ y.toInt ∧ y.toInt ≤ p5 2 - 1
      · rw [ind_t c, if_pos c, if_neg (show ¬ iZ 1 = iZ 0 by decide)]
      · rw [ind_f c, if_neg c, if_pos (show iZ 0 = iZ 0 from rfl)]
    · rw [if_neg (show ¬ iZ ((3 : Nat) : Int) = 1 by decide), if_neg (show ¬ iZ ((3 : Nat) : Int) = 2 by decide), e3, zsn, q0, if_neg (show ¬ iZ 1 = iZ 0 by decide), show (1000000000000000 : Int64) = lZ (p5 3) from rfl, ei, zsn, qm9, q1]
      by_cases c : 0 ≤ y.toInt ∧ y.toInt ≤ p5 3 - 1
      · rw [ind_t c, if_pos c, if_neg (show ¬ iZ 1 = iZ 0 by decide)]
      · rw [ind_f c, if_neg c, if_pos (show iZ 0 = iZ 0 from rfl)]
  by_cases gs : 0 ≤ y.toInt ∧ y.toInt ≤ p5 m - 1
  case neg =>
    have hn : ¬ (0 ≤ y.toInt ∧ rJ y m = 0) := fun w => by
      obtain ⟨w1, w2⟩ := w
      have ez := rJ_eq w1 yhi m
      rw [lZ_of, w2] at ez
      have h1' : 0 ≤ y.toInt / p5 m := Int.ediv_nonneg w1 (by omega)
      have h2' : y.toInt / p5 m ≤ y.toInt := Int.ediv_le_self _ w1
      have e0 : y.toInt / p5 m = 0 := by
        have := (lZ_eq (a := 0) (b := y.toInt / p5 m) (by omega) (by omega) (by omega) (by omega)).mp ez
        omega
      have e2 := Int.emod_lt_of_pos y.toInt pm
      have e3 := Int.emod_add_mul_ediv y.toInt (p5 m)
      rw [e0, Int.mul_zero] at e3
      exact gs ⟨w1, by omega⟩
    rw [ind_f hn] at e1
    obtain ⟨j1, g1, J1⟩ := S1.no R (c := 1) (by omega) (by omega)
    refine rnd_ex (E := "java/lang/IllegalArgumentException") (h' := h1) (c := 1) (by omega) ?_ ?_ ⟨0, j1, by omega, ?_, J1⟩
    · unfold FX6_runScript
      rw [cs_zo S.cs0, zsn, q1, q3, chkArg_t (by omega) (by omega) gp, zbx_ok, e1, zb2n, q0, if_pos rfl]
    · rw [if_pos rfl, q1]
    · rw [form7 h1 _ S1.mo0, if_neg gs, g1, zb2n, if_neg (show ¬ iZ 1 = iZ 0 by decide)]
  have hy : 0 ≤ y.toInt ∧ rJ y m = 0 := by
    have e0 : y.toInt / p5 m = 0 := Int.ediv_eq_zero_of_lt gs.1 (by omega)
    have ez := rJ_eq gs.1 yhi m
    rw [lZ_of, e0] at ez
    exact ⟨gs.1, ez⟩
  rw [ind_t hy] at e1
  have hcm : ∀ t : Nat, t < m → cm t = y.toInt / p5 (m - 1 - t) % 100000 := fun t ht => by
    have e2 := gJ_eq gs.1 yhi (m - 1 - t)
    rw [lZ_of] at e2
    have e3 := ew (m - 1 - t) (by omega)
    rw [show m - 1 - (m - 1 - t) = t from by omega] at e3
    rw [e3, e2]
  have A21 : ∃ e, ShAt T h1 (b + 21) e := S1.2.2.1 1 (by omega)
  obtain ⟨e0, E0⟩ := A21
  obtain ⟨h2, d1, e2, M2, hs, f2⟩ := takeFrom_eq E0 S1.sh0 (by omega)
  have S2 := S1.trial M2 f2
  have hOd := OkD_same hs hO
  obtain ⟨z, h3, e3, hz, S3, nx⟩ := script_loop (m := m) (by omega) gs.1 (by omega) hcm m 0 FUEL h2 d1 (by omega) (by unfold FUEL; omega) S2 M2 hOd (B1.kept (f2 _ (by omega)) (f2 _ (by omega)))
  refine rnd_ok (h' := h3) (val := z) (by omega) ?_ S3 (fun q K => ?_)
  · unfold FX6_runScript
    rw [cs_zo S.cs0, zsn, q1, q3, chkArg_t (by omega) (by omega) gp, zbx_ok, e1, zb2n, q0, if_neg (show ¬ iZ 1 = iZ 0 by decide), cs_r4 S1.cs0, zsn, cs_r3 S1.cs0, zsn, e2, zsn, qm9]
    exact e3
  · obtain ⟨k1, g1, K1⟩ := K.yes
    obtain ⟨k2, r1, g2, hr1, A2, K2⟩ := K1.tt7
    obtain ⟨k3, v3, g3, K3, lo3⟩ := nx FUEL k2 _ _ r1 (by unfold FUEL; omega) K2 A2 (Pg_same hs hO hP hr1)
    refine ⟨k3, ?_, K3.fin ((R.ref 0).vv (lo3 2 (by omega)) (lo3 9 (by omega))) ((lo3 0 (by omega)).trans (upZ_self _ _ _))⟩
    rw [form7 q _ K.mo0, if_pos gs, g1, zb2n, if_pos rfl, mo_r5 K1.mo0, zsn, mo_r6 K1.mo0, zsn, g2, zsn]
    have ez : y.toInt % p5 (m - 0) = y.toInt := Int.emod_eq_of_lt gs.1 (by rw [Nat.sub_zero]; omega)
    rw [ez, lZ_of] at g3
    exact g3
end Rv
