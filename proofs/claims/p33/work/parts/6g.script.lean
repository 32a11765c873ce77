/-! scripts that ask: doubts, words, a word's length, a turn -/
def Ot (T : zT) (hz h : zH) (b : Nat) (σ : Sg) (e : Nat → Nat → Int) : Prop := ∃ n tx d nxt dd fl ds, St T hz h b n tx d σ.2.1 nxt dd fl ds σ.2.2.2.1 ∧ ((0 ≤ n ∧ n ≤ 120) ∧ (OkD σ.1 ∧ LE σ.1 d) ∧ (0 ≤ σ.2.1 ∧ σ.2.1 ≤ 14 ∧ 0 ≤ nxt ∧ nxt < 14) ∧ (∀ i : Nat, (i : Int) < σ.2.1 → fl (sln nxt i) = 1 ∧ OkD (σ.2.2.1 i) ∧ LE (σ.2.2.1 i) (dd (sln nxt i))) ∧ ∀ i : Nat, i < 2 → (σ.2.2.2.1 i = 0 ∨ σ.2.2.2.1 i = 1) ∧ (σ.2.2.2.1 i = 1 → OkD (σ.2.2.2.2 i) ∧ LE (σ.2.2.2.2 i) (ds i))) ∧ OkD e ∧ ∃ e1, ShAt T h (b + 21) e1 ∧ LE e e1
theorem div_hi {A B C : Int} (h : 0 ≤ C) (h2 : C < B) : (A * B + C) / B = A := by rw [Int.add_comm, Int.add_mul_ediv_right _ _ (by omega), Int.ediv_eq_zero_of_lt h h2, Int.zero_add]
section Ob6
variable {T : zT} {hz h h' : zH} {b : Nat} {σ τ : Sg} {e : Nat → Nat → Int}
theorem Ot.ob (O : Ot T hz h b σ e) : Ob T hz h b σ := by
  obtain ⟨n, tx, d, nxt, dd, fl, ds, S, ⟨hn, R⟩, -⟩ := O
  exact ⟨n, tx, hn, d, nxt, dd, fl, ds, S, R⟩
/-- the row of commands is as it was -/
def sc9 (b : Nat) (h h' : zH) : Prop := h' (b + 352) = h (b + 352) ∧ h' (b + 353) = h (b + 353)
theorem cm_7 (O : Ot T hz h b σ e) {v : Int} (v1 : 0 ≤ v) (v2 : v ≤ 99) : ∃ h', FX6_succeeds T b (iZ (70000 + v)) h = some (iZ (if v < gsum e (dbt e) then 0 else 1), h') ∧ Ot T hz h' b σ e ∧ sc9 b h h' := by
  have O9 := O
  obtain ⟨n, tx, d, nxt, dd, fl, ds, S, R, hO, e1, M, hl⟩ := O
  have hdb := dbt_162 hO
  refine ⟨h, ?_, O9, rfl, rfl⟩
  rw [succ_SB S.cs0 (by omega) (by omega), show (70000 + v) / 1000 % 10 = 0 by omega, show (70000 + v) / 100 % 10 = 0 by omega, show (70000 + v) / 10000 = 7 by omega]
  unfold SB
  rw [q1, if_neg (show ¬ iZ 7 = iZ 1 by decide), q2, if_neg (show ¬ iZ 7 = iZ 2 by decide), q3, if_neg (show ¬ iZ 7 = iZ 3 by decide), q4, if_neg (show ¬ iZ 7 = iZ 4 by decide), q5, if_neg (show ¬ iZ 7 = iZ 5 by decide), q6, if_neg (show ¬ iZ 7 = iZ 6 by decide), q7, if_pos rfl]
  simp only [zJn]
  rw [q0, if_pos rfl, if_pos rfl, cs_r4 S.cs0, zsn, countDoubtful_eq M (hl.ok hO), zsn, q10, iZ_mul, iZ_add, show 10 * ((70000 + v) / 10 % 10) + (70000 + v) % 10 = v by omega, le_dbt hl hO]
  by_cases c1 : v < gsum e (dbt e)
  · rw [if_pos (by rw [iZ_lt (by omega) (by omega) (by omega) (by omega)]; omega), if_pos c1]
    (first | rw [if_pos (Or.inl rfl)] | rw [if_pos (Or.inl trivial)])
  · rw [if_neg (by rw [iZ_lt (by omega) (by omega) (by omega) (by omega)]; omega), if_neg c1]
    (first | rw [if_pos (Or.inr rfl)] | rw [if_pos (Or.inr trivial)])
theorem cm_5 (O : Ot T hz h b σ e) : ∃ h', FX6_succeeds T b (iZ 50000) h = some (iZ 1, h') ∧ Ot T hz h' b σ (tnF e) ∧ sc9 b h h' := by
  obtain ⟨n, tx, d, nxt, dd, fl, ds, S, R, hO, e1, M, hl⟩ := O
  have S12 : ∃ e, ShAt T h (b + 38) e := S.2.2.1 2 (by omega)
  obtain ⟨e0, E0⟩ := S12
  have hO1 := hl.ok hO
  obtain ⟨h2, d', e9, e2, M2, E2, hsd, hT, f2⟩ := turnByQuarter_eq M E0 hO1 (by omega)
  have hln : LE (tnF e) d' := turned_le hO (hl.trans (LE.same hsd hO1)) (tnF_turned hO) hT
  refine ⟨h2, ?_, ⟨n, tx, d, nxt, dd, fl, ds, S.turnedT M2 E2 f2, R, tnF_ok hO, d', M2, hln⟩, f2 _ (by omega) (by omega), f2 _ (by omega) (by omega)⟩
  rw [succ_SB S.cs0 (by omega) (by omega), show (50000 : Int) / 1000 % 10 = 0 by decide, show (50000 : Int) / 100 % 10 = 0 by decide, show (50000 : Int) / 10000 = 5 by decide, show (50000 : Int) / 10 % 10 = 0 by decide, show (50000 : Int) % 10 = 0 by decide]
  unfold SB FX6_tryTurn
  rw [q1, if_neg (show ¬ iZ 5 = iZ 1 by decide), q2, if_neg (show ¬ iZ 5 = iZ 2 by decide), q3, if_neg (show ¬ iZ 5 = iZ 3 by decide), q4, if_neg (show ¬ iZ 5 = iZ 4 by decide), q5, if_pos rfl]
  simp only [zJn]
  rw [q0, q10, iZ_mul, iZ_add, if_pos rfl, if_pos rfl, if_pos (show iZ (10 * 0 + 0) = iZ 0 from rfl), cs_zo S.cs0, zsn, cs_r4 S.cs0, zsn, cs_r5 S.cs0, zsn, e2, zsn, zb2n, if_neg (show ¬ iZ 1 = iZ 0 by decide)]
  (first | rw [if_pos (Or.inr rfl)] | rw [if_pos (Or.inr trivial)])
theorem ot_read (O : Ot T hz h b σ e) {L : Nat} (hL : L < 2) : ∃ h' n w g, (zgr h b 6 8 = some (b + 336) ∧ zgr h b 6 4 = some (b + 21) ∧ zgi h (b + 21) 3 3 = some (iZ g)) ∧ CsAt h b n ∧ CsAt h' b n ∧ FX2_readLetter T (b + 336) (b + 21) (iZ L) (iZ g) h = some (iZ (rd e L 0 0), h') ∧ RdAt T h' (b + 336) w ∧ RdE (rd e L) w ∧ RdOk w 81 ∧ SO w ∧ Ot T hz h' b σ e ∧ sc9 b h h' := by
  obtain ⟨n, tx, d, nxt, dd, fl, ds, S, R, hO, e1, M, hl⟩ := O
  have hO1 := hl.ok hO
  obtain ⟨h2, w0, e2, R2, M2, S2, N2, f2⟩ := S.rt2 M hO1 hL
  have hE := rd_of (L := L) hO1 N2
  rw [le_rd hl hL] at hE
  refine ⟨h2, n, _, e1 0 3, ⟨cs_r8 S.cs0, cs_r4 S.cs0, sh_g3 M⟩, S.cs0, S2.cs0, ?_, R2, hE, rdok hO1 N2, rdso hO1 N2, ⟨n, tx, d, nxt, dd, fl, ds, S2, R, hO, e1, M2, hl⟩, f2 _ (by omega), f2 _ (by omega)⟩
  rw [e2, hE.1]
theorem cm_6 (O : Ot T hz h b σ e) {L : Nat} (hL : L < 2) {v : Int} (v1 : 0 ≤ v) (v2 : v ≤ 99) : ∃ h', FX6_succeeds T b (iZ (60000 + 1000 * L + v)) h = some (iZ (if rd e L 0 0 < v then 0 else 1), h') ∧ Ot T hz h' b σ e ∧ sc9 b h h' := by
  obtain ⟨h2, n, w, g, ⟨g8, g4, g3⟩, C, C2, e2, R2, hE, oW, sW, O2, f2⟩ := ot_read O hL
  have o1 := oW.1
  have o2 := oW.2.1
  rw [hE.1] at o1 o2
  refine ⟨h2, ?_, O2, f2⟩
  rw [succ_SB C (by omega) (by omega), show (60000 + 1000 * (L : Int) + v) / 1000 % 10 = L by omega, show (60000 + 1000 * (L : Int) + v) / 100 % 10 = 0 by omega, show (60000 + 1000 * (L : Int) + v) / 10000 = 6 by omega]
  unfold SB
  rw [q1, if_neg (show ¬ iZ 6 = iZ 1 by decide), q2, if_neg (show ¬ iZ 6 = iZ 2 by decide), q3, if_neg (show ¬ iZ 6 = iZ 3 by decide), q4, if_neg (show ¬ iZ 6 = iZ 4 by decide), q5, if_neg (show ¬ iZ 6 = iZ 5 by decide), q6, if_pos rfl]
  simp only [zJn]
  rw [isLet_t (by omega) (by omega), zsn, q0, if_neg (show ¬ iZ 1 = iZ 0 by decide), if_pos rfl, g8, zsn, g4, zsn, zsn, g3, zsn, e2, zb2n, q10, iZ_mul, iZ_add, show 10 * ((60000 + 1000 * (L : Int) + v) / 10 % 10) + (60000 + 1000 * (L : Int) + v) % 10 = v by omega]
  by_cases c1 : rd e L 0 0 < v
  · rw [if_pos (by rw [iZ_lt (by omega) (by omega) (by omega) (by omega)]; omega), if_pos c1]
    (first | rw [if_pos (Or.inl rfl)] | rw [if_pos (Or.inl trivial)])
  · rw [if_neg (by rw [iZ_lt (by omega) (by omega) (by omega) (by omega)]; omega), if_neg c1]
    (first | rw [if_pos (Or.inr rfl)] | rw [if_pos (Or.inr trivial)])
theorem cm_8 (O : Ot T hz h b σ e) (hO : OkD e) {m v : Int} (m1 : 0 ≤ m) (m2 : m ≤ 9) (m3 : m < rd e 0 0 0) (v1 : 0 ≤ v) (v2 : v ≤ 99) : ∃ h', FX6_succeeds T b (iZ (80000 + 100 * m + v)) h = some (iZ (if wlen (rd e 0) m = v then 1 else 0), h') ∧ Ot T hz h' b σ e ∧ sc9 b h h' := by
  obtain ⟨h2, n, w, g, ⟨g8, g4, g3⟩, C, C2, e2, R2, hE, oW, sW, O2, f2⟩ := ot_read O (L := 0) (by omega)
  have o1 := oW.1
  have o2 := oW.2.1
  rw [hE.1] at o1 o2
  have e2' : FX2_readLetter T (b + 336) (b + 21) (iZ 0) (iZ g) h = some (iZ (rd e 0 0 0), h2) := e2
  have hl := lengthOf_eq R2 oW m1 (by rw [hE.1]; exact m3)
  rw [rde_len hE (rd_ok hO 0) m1 m3] at hl
  have hw := wlen_le (rd_so hO 0) (rd_ok hO 0) m1 m3
  refine ⟨h2, ?_, O2, f2⟩
  rw [succ_SB C (by omega) (by omega), show (80000 + 100 * m + v) / 1000 % 10 = 0 by omega, show (80000 + 100 * m + v) / 100 % 10 = m by omega, show (80000 + 100 * m + v) / 10000 = 8 by omega]
  unfold SB
  rw [q1, if_neg (show ¬ iZ 8 = iZ 1 by decide), q2, if_neg (show ¬ iZ 8 = iZ 2 by decide), q3, if_neg (show ¬ iZ 8 = iZ 3 by decide), q4, if_neg (show ¬ iZ 8 = iZ 4 by decide), q5, if_neg (show ¬ iZ 8 = iZ 5 by decide), q6, if_neg (show ¬ iZ 8 = iZ 6 by decide), q7, if_neg (show ¬ iZ 8 = iZ 7 by decide), q8, if_pos rfl]
  simp only [zJn]
  rw [isLet_t (by omega) (by omega), zsn, q0, if_neg (show ¬ iZ 1 = iZ 0 by decide), g8, zsn, g4, zsn, zsn, g3, zsn, e2', zb2n, if_neg (by rw [iZ_le (by omega) (by omega) (by omega) (by omega)]; omega), cs_r8 C2, zsn, hl, zsn, q10, iZ_mul, iZ_add, show 10 * ((80000 + 100 * m + v) / 10 % 10) + (80000 + 100 * m + v) % 10 = v by omega]
  by_cases c1 : wlen (rd e 0) m = v
  · rw [if_pos (by rw [c1]), if_pos c1]
    (first | rw [if_pos (Or.inr rfl)] | rw [if_pos (Or.inr trivial)])
  · rw [if_neg (by rw [iZ_eq (by omega) (by omega) (by omega) (by omega)]; exact c1), if_neg c1]
    (first | rw [if_pos (Or.inl rfl)] | rw [if_pos (Or.inl trivial)])
/-- one command of a script -/
theorem scr_st (C : ∃ n, CsAt h b n) {cm : Nat → Int} (B : Num T h (b + 352) 3 cm) {m i k : Nat} (hm : m ≤ 3) (hi : i < m) {g ok : Int} (hg : cm i = g) (hk : ok = 0 ∨ ok = 1) (es : FX6_succeeds T b (iZ g) h = some (iZ ok, h')) (K0 : Int32 → zH → Option (Except String Int32 × zH)) (K1 : zH → Option (Except String Int32 × zH)) : LX6_runScript_40 T b (iZ m) K0 K1 (k + 1) (iZ i) h = if ok = 0 then K0 (iZ i) h' else LX6_runScript_40 T b (iZ m) K0 K1 k (iZ ((i : Int) + 1)) h' := by
  obtain ⟨n, C⟩ := C
  have ea : FX1_at T (b + 352) (iZ i) h = some (iZ g) := by rw [← hg]; exact at_in B (by omega) (by omega) (by omega)
  rw [LX6_runScript_40.eq_2, if_neg (by rw [iZ_le (by omega) (by omega) (by omega) (by omega)]; omega), cs_r11 C, zsn, ea, zsn, es, zb2n, q0, q1, iZ_add]
  by_cases c : ok = 0
  · rw [if_pos (by rw [c]), if_pos c]
  · rw [if_neg (by rw [iZ_eq (by omega) (by omega) (by omega) (by omega)]; exact c), if_neg c]
theorem scr_en {m k : Nat} (hm : m ≤ 3) (K0 : Int32 → zH → Option (Except String Int32 × zH)) (K1 : zH → Option (Except String Int32 × zH)) : LX6_runScript_40 T b (iZ m) K0 K1 (k + 1) (iZ m) h = K1 h := by
  rw [LX6_runScript_40.eq_2, if_pos (by exact Int32.le_refl _)]
theorem Ot.cs (O : Ot T hz h b σ e) : ∃ n, CsAt h b n := by
  obtain ⟨n, tx, d, nxt, dd, fl, ds, S, -⟩ := O
  exact ⟨n, S.cs0⟩
theorem sc9.num {cm : Nat → Int} (f : sc9 b h h') (B : Num T h (b + 352) 3 cm) : Num T h' (b + 352) 3 cm := B.kept f.1 f.2
/-- a script begins -/
theorem scr_go (O : Ob T hz h b σ) {m : Nat} (m1 : 1 ≤ m) (m2 : m ≤ 3) {z : Int} (z1 : 0 ≤ z) (z2 : z < p5 m) : ∃ h' cm, (∀ t : Nat, t < m → cm t = z / p5 (m - 1 - t) % 100000) ∧ Num T h' (b + 352) 3 cm ∧ Ot T hz h' b σ σ.1 ∧ ∀ (v : Int) (h2 : zH) (e : Nat → Nat → Int), LX6_runScript_40 T b (iZ m) (fun (x21 : Int32) (h22 : zH) => some (Except.ok (ε := String) x21, h22)) (fun (h23 : zH) => some (Except.ok (ε := String) (iZ (-9)), h23)) FUEL (iZ 0) h' = some (.ok (iZ v), h2) → Ot T hz h2 b σ e → Rq T hz b (FL_tryScript T b (iZ m) (lZ z) h) v σ := by
  obtain ⟨n, tx, hn, d, nxt, dd, fl, ds, S, ⟨hO, hl⟩, R⟩ := O
  have hO' := hl.ok hO
  obtain ⟨v0, v1, v2, v3⟩ := p5_v
  have hb : p5 m ≤ 1000000000000000 := by
    rcases (show m = 1 ∨ m = 2 ∨ m = 3 by omega) with rfl | rfl | rfl
    · rw [v1]; omega
    · rw [v2]; omega
    · rw [v3]; omega
  have ez : (lZ z).toInt = z := lZ_toInt (by omega) (by omega)
  obtain ⟨h1, cm, e1, B1, ew, S1⟩ := scr6 S (m := m) m1 m2 (lZ z)
  have hy : 0 ≤ (lZ z).toInt ∧ rJ (lZ z) m = 0 := by
    refine ⟨by omega, ?_⟩
    rw [rJ_eq z1 (by omega) m, Int.ediv_eq_zero_of_lt z1 z2]
    rfl
  rw [ind_t hy] at e1
  have hcm : ∀ t : Nat, t < m → cm t = z / p5 (m - 1 - t) % 100000 := fun t ht => by
    have e2 := gJ_eq z1 (by omega) (m - 1 - t)
    have e3 := ew (m - 1 - t) (by omega)
    rw [show m - 1 - (m - 1 - t) = t from by omega] at e3
    rw [e3, e2]
  have A21 : ∃ e, ShAt T h1 (b + 21) e := S1.2.2.1 1 (by omega)
  obtain ⟨e0, E0⟩ := A21
  obtain ⟨h2, d1, e2, M2, hs, f2⟩ := takeFrom_eq E0 S1.sh0 (by omega)
  have S2 := S1.trial M2 f2
  have B2 : Num T h2 (b + 352) 3 cm := B1.kept (f2 _ (by omega)) (f2 _ (by omega))
  refine ⟨h2, cm, hcm, B2, ⟨n, tx, d, nxt, dd, fl, ds, S2, ⟨hn, ⟨hO, hl⟩, R⟩, hO, d1, M2, hl.trans (LE.same hs hO')⟩, fun v h3 e el O3 => ?_⟩
  have gp : (1 : Int) ≤ m ∧ (m : Int) ≤ 3 := by omega
  unfold FL_tryScript
  refine rq_ok (h' := h3) ?_ O3.ob
  unfold FX6_runScript
  rw [cs_zo S.cs0, zsn, q1, q3, chkArg_t (by omega) (by omega) gp, zbx_ok, e1, zb2n, q0, if_neg (show ¬ iZ 1 = iZ 0 by decide), cs_r4 S1.cs0, zsn, cs_r3 S1.cs0, zsn, e2, zsn, qm9]
  exact el
theorem k_script_n (O : Ob T hz h b σ) (y : Int64) : Rq T hz b (FL_tryScript T b (iZ 4) y h) (-9999002) σ := by
  have O9 := O
  obtain ⟨n, tx, hn, d, nxt, dd, fl, ds, S, R⟩ := O
  unfold FL_tryScript
  refine rq_ex (E := "java/lang/IllegalArgumentException") (h' := h) ?_ (by rw [if_pos rfl, qI2]) O9
  unfold FX6_runScript
  rw [cs_zo S.cs0, zsn, q1, q3, chkArg_f (by omega) (by omega) (by omega) (by omega) (by omega) (by omega) (by omega), zbx_er]
theorem k_script_y (O : Ob T hz h b σ) {m : Nat} {z : Int} (hz9 : (m = 1 ∧ z = 100000) ∨ (m = 2 ∧ z = -1)) : Rq T hz b (FL_tryScript T b (iZ m) (lZ z) h) (-9999002) σ := by
  obtain ⟨n, tx, hn, d, nxt, dd, fl, ds, S, R⟩ := O
  have ez : (lZ z).toInt = z := lZ_toInt (by omega) (by omega)
  obtain ⟨h1, cm, e1, B1, ew, S1⟩ := scr6 S (m := m) (by omega) (by omega) (lZ z)
  have hno : ¬ (0 ≤ (lZ z).toInt ∧ rJ (lZ z) m = 0) := by
    rintro ⟨w1, w2⟩
    rcases hz9 with ⟨rfl, rfl⟩ | ⟨rfl, rfl⟩
    · exact absurd w2 (by decide)
    · omega
  rw [ind_f hno] at e1
  have gp : (1 : Int) ≤ m ∧ (m : Int) ≤ 3 := by omega
  unfold FL_tryScript
  refine rq_ex (E := "java/lang/IllegalArgumentException") (h' := h1) ?_ (by rw [if_pos rfl, qI2]) ⟨n, tx, hn, d, nxt, dd, fl, ds, S1, R⟩
  unfold FX6_runScript
  rw [cs_zo S.cs0, zsn, q1, q3, chkArg_t (by omega) (by omega) gp, zbx_ok, e1, zb2n, q0, if_pos rfl]
/-- what the law's scripts answer -/
theorem k_s1 (O : Ob T hz h b σ) {v : Int} (v1 : 0 ≤ v) (v2 : v ≤ 99) : Rq T hz b (FL_tryScript T b (iZ 1) (lZ (70000 + v)) h) (if v < gsum σ.1 (dbt σ.1) then 0 else -9) σ := by
  obtain ⟨v0, v1', v2', v3'⟩ := p5_v
  obtain ⟨h1, cm, hcm, B1, O1, fin⟩ := scr_go O (m := 1) (by omega) (by omega) (z := 70000 + v) (by omega) (by rw [v1']; omega)
  obtain ⟨h2, e2, O2, f2⟩ := cm_7 O1 v1 v2
  have hg := hcm 0 (by omega)
  rw [show p5 (1 - 1 - 0) = 1 from rfl, show (70000 + v) / 1 % 100000 = 70000 + v by omega] at hg
  refine fin _ h2 _ ?_ O2
  have st := scr_st (k := 9999) O1.cs B1 (m := 1) (i := 0) (by omega) (by omega) hg (by split <;> omega) e2 (fun (x21 : Int32) (h22 : zH) => some (Except.ok (ε := String) x21, h22)) (fun (h23 : zH) => some (Except.ok (ε := String) (iZ (-9)), h23))
  refine Eq.trans (show _ = _ from st) ?_
  by_cases c : v < gsum σ.1 (dbt σ.1)
  · rw [if_pos c, if_pos c, if_pos rfl]
    rfl
  · rw [if_neg c, if_neg c, if_neg (by omega)]
    exact scr_en (k := 9998) (m := 1) (by omega) _ _
theorem k_s3 (O : Ob T hz h b σ) {v : Int} (v1 : 0 ≤ v) (v2 : v ≤ 98) (hv : v = gsum σ.1 (dbt σ.1)) : Rq T hz b (FL_tryScript T b (iZ 3) (lZ ((70000 + v) * 10000000000 + 5000070000 + v)) h) (-9) σ := by
  have hO := O.ok
  obtain ⟨v0, v1', v2', v3'⟩ := p5_v
  obtain ⟨h1, cm, hcm, B1, O1, fin⟩ := scr_go O (m := 3) (by omega) (by omega) (z := (70000 + v) * 10000000000 + 5000070000 + v) (by omega) (by rw [v3']; omega)
  have g0 := hcm 0 (by omega)
  have g1 := hcm 1 (by omega)
  have g2 := hcm 2 (by omega)
  rw [show 3 - 1 - 0 = 2 from rfl, v2', show ((70000 + v) * 10000000000 + 5000070000 + v) / 10000000000 = 70000 + v by rw [Int.add_assoc]; exact div_hi (by omega) (by omega), show (70000 + v) % 100000 = 70000 + v by omega] at g0
  rw [show 3 - 1 - 1 = 1 from rfl, v1', show ((70000 + v) * 10000000000 + 5000070000 + v) = ((70000 + v) * 100000 + 50000) * 100000 + (70000 + v) by omega, div_hi (by omega) (by omega), show ((70000 + v) * 100000 + 50000) % 100000 = 50000 by omega] at g1
  rw [show 3 - 1 - 2 = 0 from rfl, v0, show ((70000 + v) * 10000000000 + 5000070000 + v) / 1 % 100000 = 70000 + v by omega] at g2
  obtain ⟨h2, e2, O2, f2⟩ := cm_7 O1 v1 (show v ≤ 99 by omega)
  obtain ⟨h3, e3, O3, f3⟩ := cm_5 O2
  obtain ⟨h4, e4, O4, f4⟩ := cm_7 O3 v1 (show v ≤ 99 by omega)
  have B2 := f2.num B1
  have B3 := f3.num B2
  have ed := turned_dbt hO (tnF_turned hO)
  rw [if_neg (by omega)] at e2
  rw [if_neg (by omega)] at e4
  refine fin _ h4 _ ?_ O4
  have s1 := scr_st (k := 9999) O1.cs B1 (m := 3) (i := 0) (by omega) (by omega) g0 (Or.inr rfl) e2 (fun (x21 : Int32) (h22 : zH) => some (Except.ok (ε := String) x21, h22)) (fun (h23 : zH) => some (Except.ok (ε := String) (iZ (-9)), h23))
  have s2 := scr_st (k := 9998) O2.cs B2 (m := 3) (i := 1) (by omega) (by omega) g1 (Or.inr rfl) e3 (fun (x21 : Int32) (h22 : zH) => some (Except.ok (ε := String) x21, h22)) (fun (h23 : zH) => some (Except.ok (ε := String) (iZ (-9)), h23))
  have s3 := scr_st (k := 9997) O3.cs B3 (m := 3) (i := 2) (by omega) (by omega) g2 (Or.inr rfl) e4 (fun (x21 : Int32) (h22 : zH) => some (Except.ok (ε := String) x21, h22)) (fun (h23 : zH) => some (Except.ok (ε := String) (iZ (-9)), h23))
  have s4 := scr_en (T := T) (b := b) (h := h4) (k := 9996) (m := 3) (by omega) (fun (x21 : Int32) (h22 : zH) => some (Except.ok (ε := String) x21, h22)) (fun (h23 : zH) => some (Except.ok (ε := String) (iZ (-9)), h23))
  rw [if_neg (by omega)] at s1 s2 s3
  exact (show _ = _ from s1).trans ((show _ = _ from s2).trans ((show _ = _ from s3).trans s4))
theorem k_s6 (O : Ob T hz h b σ) {L : Nat} (hL : L < 2) {v : Int} (v1 : 0 ≤ v) (v2 : v ≤ 98) (hv : v = rd σ.1 L 0 0) : Rq T hz b (FL_tryScript T b (iZ 2) (lZ ((60000 + 1000 * L + v) * 100000 + (60000 + 1000 * L + (v + 1)))) h) 1 σ := by
  obtain ⟨v0, v1', v2', v3'⟩ := p5_v
  obtain ⟨h1, cm, hcm, B1, O1, fin⟩ := scr_go O (m := 2) (by omega) (by omega) (z := (60000 + 1000 * L + v) * 100000 + (60000 + 1000 * L + (v + 1))) (by omega) (by rw [v2']; omega)
  have g0 := hcm 0 (by omega)
  have g1 := hcm 1 (by omega)
  rw [show 2 - 1 - 0 = 1 from rfl, v1', div_hi (by omega) (by omega), show (60000 + 1000 * (L : Int) + v) % 100000 = 60000 + 1000 * L + v by omega] at g0
  rw [show 2 - 1 - 1 = 0 from rfl, v0, show ((60000 + 1000 * (L : Int) + v) * 100000 + (60000 + 1000 * L + (v + 1))) / 1 % 100000 = 60000 + 1000 * L + (v + 1) by omega] at g1
  obtain ⟨h2, e2, O2, f2⟩ := cm_6 O1 hL v1 (show v ≤ 99 by omega)
  obtain ⟨h3, e3, O3, f3⟩ := cm_6 O2 hL (show 0 ≤ v + 1 by omega) (show v + 1 ≤ 99 by omega)
  have B2 := f2.num B1
  rw [if_neg (by omega)] at e2
  rw [if_pos (by omega)] at e3
  refine fin _ h3 _ ?_ O3
  have s1 := scr_st (k := 9999) O1.cs B1 (m := 2) (i := 0) (by omega) (by omega) g0 (Or.inr rfl) e2 (fun (x21 : Int32) (h22 : zH) => some (Except.ok (ε := String) x21, h22)) (fun (h23 : zH) => some (Except.ok (ε := String) (iZ (-9)), h23))
  have s2 := scr_st (k := 9998) O2.cs B2 (m := 2) (i := 1) (by omega) (by omega) g1 (Or.inl rfl) e3 (fun (x21 : Int32) (h22 : zH) => some (Except.ok (ε := String) x21, h22)) (fun (h23 : zH) => some (Except.ok (ε := String) (iZ (-9)), h23))
  rw [if_neg (by omega)] at s1
  rw [if_pos rfl] at s2
  exact (show _ = _ from s1).trans s2
theorem k_s8 (O : Ob T hz h b σ) {m v : Int} (m1 : 0 ≤ m) (m2 : m ≤ 9) (m3 : m < rd σ.1 0 0 0) (v2 : v ≤ 98) (hv : v = wlen (rd σ.1 0) m) : Rq T hz b (FL_tryScript T b (iZ 2) (lZ ((80000 + 100 * m + v) * 100000 + (80000 + 100 * m + (v + 1)))) h) 1 σ := by
  have hO := O.ok
  have hw := wlen_le (rd_so hO 0) (rd_ok hO 0) m1 m3
  obtain ⟨v0, v1', v2', v3'⟩ := p5_v
  obtain ⟨h1, cm, hcm, B1, O1, fin⟩ := scr_go O (m := 2) (by omega) (by omega) (z := (80000 + 100 * m + v) * 100000 + (80000 + 100 * m + (v + 1))) (by omega) (by rw [v2']; omega)
  have g0 := hcm 0 (by omega)
  have g1 := hcm 1 (by omega)
  rw [show 2 - 1 - 0 = 1 from rfl, v1', div_hi (by omega) (by omega), show (80000 + 100 * m + v) % 100000 = 80000 + 100 * m + v by omega] at g0
  rw [show 2 - 1 - 1 = 0 from rfl, v0, show ((80000 + 100 * m + v) * 100000 + (80000 + 100 * m + (v + 1))) / 1 % 100000 = 80000 + 100 * m + (v + 1) by omega] at g1
  obtain ⟨h2, e2, O2, f2⟩ := cm_8 O1 hO m1 m2 m3 (show 0 ≤ v by omega) (show v ≤ 99 by omega)
  obtain ⟨h3, e3, O3, f3⟩ := cm_8 O2 hO m1 m2 m3 (show 0 ≤ v + 1 by omega) (show v + 1 ≤ 99 by omega)
  have B2 := f2.num B1
  rw [if_pos (by omega)] at e2
  rw [if_neg (by omega)] at e3
  refine fin _ h3 _ ?_ O3
  have s1 := scr_st (k := 9999) O1.cs B1 (m := 2) (i := 0) (by omega) (by omega) g0 (Or.inr rfl) e2 (fun (x21 : Int32) (h22 : zH) => some (Except.ok (ε := String) x21, h22)) (fun (h23 : zH) => some (Except.ok (ε := String) (iZ (-9)), h23))
  have s2 := scr_st (k := 9998) O2.cs B2 (m := 2) (i := 1) (by omega) (by omega) g1 (Or.inl rfl) e3 (fun (x21 : Int32) (h22 : zH) => some (Except.ok (ε := String) x21, h22)) (fun (h23 : zH) => some (Except.ok (ε := String) (iZ (-9)), h23))
  rw [if_neg (by omega)] at s1
  rw [if_pos rfl] at s2
  exact (show _ = _ from s1).trans s2
end Ob6
