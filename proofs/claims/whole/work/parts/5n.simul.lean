/-! call: simulate -/
def zr (y : Int64) : Int := ((zlushr y 33).toInt32).toInt
theorem zr_in (y : Int64) : 0 ≤ zr y ∧ zr y < 2147483648 := by
  have h0 : zlushr y 33 = (y.toUInt64 >>> (33 : UInt64)).toInt64 := by
    unfold zlushr
    rw [show ((33 : Int32).toInt64.toUInt64 &&& Int64.toUInt64 63) = (33 : UInt64) from by decide]
  have h1 : (y.toUInt64 >>> (33 : UInt64)).toNat < 2147483648 := by
    rw [UInt64.toNat_shiftRight, show (33 : UInt64).toNat % 64 = 33 from by decide, Nat.shiftRight_eq_div_pow]
    have := y.toUInt64.toNat_lt
    omega
  have h2 : (zlushr y 33).toInt = ((y.toUInt64 >>> (33 : UInt64)).toNat : Int) := by
    rw [h0]
    show (y.toUInt64 >>> (33 : UInt64)).toBitVec.toInt = _
    rw [BitVec.toInt_eq_toNat_of_lt (by
      show 2 * (y.toUInt64 >>> (33 : UInt64)).toNat < 2 ^ 64
      omega)]
    rfl
  have h3 : (zlushr y 33).toInt32 = iZ ((y.toUInt64 >>> (33 : UInt64)).toNat : Int) := by
    rw [← h2]
    show _ = Int32.ofInt (zlushr y 33).toInt
    rw [← Int64.toInt32_ofInt, Int64.ofInt_toInt]
  unfold zr
  rw [h3, iZ_toInt (by omega) (by omega)]
  omega
theorem zr_eq (y : Int64) : (zlushr y 33).toInt32 = iZ (zr y) := (iZ_of _).symm
def nxs (x : Int64) : Int64 := (x * (6364136223846793005 : Int64)) + (1442695040888963407 : Int64)
def rs1 (d : Nat → Nat → Int) (z : Int) : Nat → Nat → Int := if cn d (z % d 0 0) (z / 16 % d 0 1) < 2 then d else drem d (z % d 0 0) (z / 16 % d 0 1) 0
def rs (d : Nat → Nat → Int) (z : Int) : Nat → Nat → Int := dadd (rs1 d z) (z % d 0 0) (z / 16 % d 0 1) (z / 256 % 27) (z / 8192 % 4) (z / 65536 % 9)
theorem rs_in {d : Nat → Nat → Int} (hO : OkD d) {z : Int} (z1 : 0 ≤ z) : inG d (z % d 0 0) (z / 16 % d 0 1) := by
  have h1 := hO.1
  have a1 := Int.emod_nonneg z (show d 0 0 ≠ 0 by omega)
  have a2 := Int.emod_lt_of_pos z (show 0 < d 0 0 by omega)
  have a3 := Int.emod_nonneg (z / 16) (show d 0 1 ≠ 0 by omega)
  have a4 := Int.emod_lt_of_pos (z / 16) (show 0 < d 0 1 by omega)
  exact ⟨a1, a2, a3, a4⟩
theorem rs1_ok {d : Nat → Nat → Int} (hO : OkD d) {z : Int} (z1 : 0 ≤ z) : OkD (rs1 d z) ∧ inG (rs1 d z) (z % d 0 0) (z / 16 % d 0 1) ∧ cn (rs1 d z) (z % d 0 0) (z / 16 % d 0 1) < 2 := by
  have g := rs_in hO z1
  have g9 := hO.g9 g
  have hcn := hO.cn g
  unfold rs1
  by_cases c : cn d (z % d 0 0) (z / 16 % d 0 1) < 2
  · rw [if_pos c]; exact ⟨hO, g, c⟩
  · rw [if_neg c]
    refine ⟨OkD_rem hO g (by omega) (by omega), (inG_row (drem_lo (by omega))).mpr g, ?_⟩
    rw [drem_cn g9 g9, if_pos ⟨rfl, rfl⟩]
    omega
theorem rs_ok {d : Nat → Nat → Int} (hO : OkD d) {z : Int} (z1 : 0 ≤ z) : OkD (rs d z) := by
  obtain ⟨a, g, c⟩ := rs1_ok hO z1
  have b1 := Int.emod_nonneg (z / 256) (show (27 : Int) ≠ 0 by omega)
  have b2 := Int.emod_lt_of_pos (z / 256) (show (0 : Int) < 27 by omega)
  have b3 := Int.emod_nonneg (z / 8192) (show (4 : Int) ≠ 0 by omega)
  have b4 := Int.emod_lt_of_pos (z / 8192) (show (0 : Int) < 4 by omega)
  have b5 := Int.emod_nonneg (z / 65536) (show (9 : Int) ≠ 0 by omega)
  have b6 := Int.emod_lt_of_pos (z / 65536) (show (0 : Int) < 9 by omega)
  exact OkD_add a g c b1 (by omega) b3 (by omega) b5 (by omega)
def xN (x : Int64) : Nat → Int64
  | 0 => x
  | k + 1 => nxs (xN x k)
def dN (e : Nat → Nat → Int) (x : Int64) : Nat → Nat → Nat → Int
  | 0 => e
  | k + 1 => rs (dN e x k) (zr (xN x (k + 1)))
theorem dN_ok {e : Nat → Nat → Int} (hO : OkD e) (x : Int64) : ∀ k, OkD (dN e x k)
  | 0 => hO
  | k + 1 => rs_ok (dN_ok hO x k) (zr_in _).1
section Sm
variable {T : zT} {h : zH} {b o : Nat} {n : Int} {tx : Nat → Int} {d : Nat → Nat → Int} {cnt nxt : Int} {dd : Nat → Nat → Nat → Int} {fl : Nat → Int} {ds : Nat → Nat → Nat → Int} {fs v tx7 r D kp kb : Nat → Int} {x : Int64}
theorem rem6 {p m : Int} (p1 : 0 ≤ p) (p2 : p < 2147483648) (m1 : 1 ≤ m) (m2 : m ≤ 9) : FX6_remainder T (iZ p) (iZ m) h = some (iZ (p % m)) := by
  unfold FX6_remainder
  simp only [zJn]
  rw [q0, if_neg (by rw [iZ_le (by omega) (by omega) (by omega) (by omega)]; omega), zremI_iZ p1 p2 (by omega) (by omega), zsn]
theorem q16_ : (16 : Int32) = iZ 16 := rfl
theorem q256_ : (256 : Int32) = iZ 256 := rfl
theorem q27_ : (27 : Int32) = iZ 27 := rfl
theorem q8192_ : (8192 : Int32) = iZ 8192 := rfl
theorem q65536_ : (65536 : Int32) = iZ 65536 := rfl
theorem div3 {z : Int} (z1 : 0 ≤ z) (z2 : z < 2147483648) : (zdivI (iZ z) (iZ 16) = some (iZ (z / 16)) ∧ zdivI (iZ z) (iZ 256) = some (iZ (z / 256)) ∧ zdivI (iZ z) (iZ 8192) = some (iZ (z / 8192)) ∧ zdivI (iZ z) (iZ 65536) = some (iZ (z / 65536))) ∧ (zremI (iZ (z / 256)) (iZ 27) = some (iZ (z / 256 % 27)) ∧ zremI (iZ (z / 8192)) (iZ 4) = some (iZ (z / 8192 % 4)) ∧ zremI (iZ (z / 65536)) (iZ 9) = some (iZ (z / 65536 % 9))) := by
  refine ⟨⟨zdivI_iZ z1 z2 (by omega) (by omega), zdivI_iZ z1 z2 (by omega) (by omega), zdivI_iZ z1 z2 (by omega) (by omega), zdivI_iZ z1 z2 (by omega) (by omega)⟩, zremI_iZ (by omega) (by omega) (by omega) (by omega), zremI_iZ (by omega) (by omega) (by omega) (by omega), zremI_iZ (by omega) (by omega) (by omega) (by omega)⟩
theorem play6 (S : St T h b o n tx d cnt nxt dd fl ds fs v tx7 r D kp kb x) {e : Nat → Nat → Int} (M : ShAt T h (b + 21) e) (hO : OkD e) {z : Int} (z1 : 0 ≤ z) (z2 : z < 2147483648) : ∃ h', FX6_playRound T b (iZ z) h = some h' ∧ ShAt T h' (b + 21) (rs e z) ∧ St T h' b o n tx d cnt nxt dd fl ds fs v tx7 r D kp kb x := by
  have h1 := hO.1
  have g := rs_in hO z1
  have g9 := hO.g9 g
  have hcn := hO.cn g
  obtain ⟨⟨d1, d2, d3, d4⟩, m1, m2, m3⟩ := div3 z1 z2
  have r1 : FX6_remainder T (iZ z) (iZ (e 0 0)) h = some (iZ (z % e 0 0)) := rem6 z1 z2 (by omega) (by omega)
  have r2 : FX6_remainder T (iZ (z / 16)) (iZ (e 0 1)) h = some (iZ (z / 16 % e 0 1)) := rem6 (by omega) (by omega) (by omega) (by omega)
  obtain ⟨o1, g1, c1⟩ := rs1_ok hO z1
  by_cases c : cn e (z % e 0 0) (z / 16 % e 0 1) < 2
  · have er : rs1 e z = e := by unfold rs1; rw [if_pos c]
    obtain ⟨h2, e2, M2, f2⟩ := addMark_eq (s := z / 256 % 27) (k := z / 8192 % 4) (w := z / 65536 % 9) M hO g c
    have S2 := S.trial M2 f2
    refine ⟨h2, ?_, (by unfold rs; rw [er]; exact M2), S2⟩
    unfold FX6_playRound
    rw [cs_zo S.cs0, zsn]
    simp only [zJn]
    rw [cs_r4 S.cs0, zsn, sh_g0 M, zsn, r1, zsn, q16_, d1, zsn, zsn, sh_g1 M, zsn, r2, zsn, zsn, hasRoom_t M hO g c, zsn, q0, if_neg (by decide), zsn, q256_, d2, zsn, q27_, m1, zsn, q8192_, d3, zsn, q4, m2, zsn, q65536_, d4, zsn, q9, m3, zsn, e2, zsn]
  · have er : rs1 e z = drem e (z % e 0 0) (z / 16 % e 0 1) 0 := by unfold rs1; rw [if_neg c]
    obtain ⟨h2, e2, M2, f2⟩ := removeMark_eq (i := 0) M hO g (by omega) (by omega)
    have S2 := S.trial M2 f2
    rw [er] at o1 g1 c1
    obtain ⟨h3, e3, M3, f3⟩ := addMark_eq (s := z / 256 % 27) (k := z / 8192 % 4) (w := z / 65536 % 9) M2 o1 g1 c1
    have S3 := S2.trial M3 f3
    refine ⟨h3, ?_, (by unfold rs; rw [er]; exact M3), S3⟩
    unfold FX6_playRound
    rw [cs_zo S.cs0, zsn]
    simp only [zJn]
    rw [cs_r4 S.cs0, zsn, sh_g0 M, zsn, r1, zsn, q16_, d1, zsn, zsn, sh_g1 M, zsn, r2, zsn, zsn, hasRoom_f M hO (by omega) (by omega) (by omega) (by omega) (fun w => c w.2), zsn, q0, if_pos rfl, zsn, e2, zsn, cs_r4 S2.cs0, zsn, q256_, d2, zsn, q27_, m1, zsn, q8192_, d3, zsn, q4, m2, zsn, q65536_, d4, zsn, q9, m3, zsn, e3, zsn]
theorem sim6 (S : St T h b o n tx d cnt nxt dd fl ds fs v tx7 r D kp kb x) {e : Nat → Nat → Int} (M : ShAt T h (b + 21) e) (hO : OkD e) (y : Int64) {m : Nat} (hm : m < 100) {ρ : Type} (K0 : zH → Option ρ) : ∃ h', LX6_simulate_24 T b (iZ m) K0 FUEL y (iZ 0) h = K0 h' ∧ ShAt T h' (b + 21) (dN e y m) ∧ St T h' b o n tx d cnt nxt dd fl ds fs v tx7 r D kp kb x := by
  refine Exists.elim (loop_st (L := fun k i (s : Int64 × zH) => LX6_simulate_24 T b (iZ m) K0 k s.1 i s.2) (K := fun s => K0 s.2) (I := fun j s => s.1 = xN y j ∧ ShAt T s.2 (b + 21) (dN e y j) ∧ St T s.2 b o n tx d cnt nxt dd fl ds fs v tx7 r D kp kb x) (n := m) (by omega) (fun k i s hi hI => ?_) (fun k s hI => ?_) (s := (y, h)) ⟨rfl, M, S⟩) ?_
  · obtain ⟨e1, M1, S1⟩ := hI
    have hz := zr_in (xN y (i + 1))
    obtain ⟨h2, e2, M2, S2⟩ := play6 S1 M1 (dN_ok hO y i) hz.1 hz.2
    refine ⟨(xN y (i + 1), h2), ?_, rfl, M2, S2⟩
    have ex : (s.1 * (6364136223846793005 : Int64)) + (1442695040888963407 : Int64) = xN y (i + 1) := by rw [e1]; rfl
    show LX6_simulate_24 T b (iZ m) K0 (k + 1) s.1 (iZ i) s.2 = _
    rw [LX6_simulate_24.eq_2, if_neg (by rw [iZ_le (by omega) (by omega) (by omega) (by omega)]; omega), ex, zr_eq, e2, zsn, q1, iZ_add]
  · show LX6_simulate_24 T b (iZ m) K0 (k + 1) s.1 (iZ m) s.2 = _
    rw [LX6_simulate_24.eq_2, if_pos (by exact Int32.le_refl _)]
  · rintro s ⟨e1, e2, M', S'⟩
    exact ⟨s.2, e1, M', S'⟩
theorem sim7 (S : St T h b o n tx d cnt nxt dd fl ds fs v tx7 r D kp kb x) {e : Nat → Nat → Int} {rt : Nat → Int} (M : Arr T h (b + 354 + 4) 739 rt) (hP : Pg e rt) (hO : OkD e) (y : Int64) {m : Nat} (hm : m < 100) {ρ : Type} (K0 : zH → Option ρ) : ∃ h' rt', LX7_simulate_45 T (b + 354) (iZ m) K0 FUEL y (iZ 0) h = K0 h' ∧ Arr T h' (b + 354 + 4) 739 rt' ∧ Pg (dN e y m) rt' ∧ St T h' b o n tx d cnt nxt dd fl ds fs v tx7 r D kp kb x := by
  refine Exists.elim (loop_st (L := fun k i (s : Int64 × zH) => LX7_simulate_45 T (b + 354) (iZ m) K0 k s.1 i s.2) (K := fun s => K0 s.2) (I := fun j s => s.1 = xN y j ∧ ∃ rt', Arr T s.2 (b + 354 + 4) 739 rt' ∧ Pg (dN e y j) rt' ∧ St T s.2 b o n tx d cnt nxt dd fl ds fs v tx7 r D kp kb x) (n := m) (by omega) (fun k i s hi hI => ?_) (fun k s hI => ?_) (s := (y, h)) ⟨rfl, rt, M, hP, S⟩) ?_
  · obtain ⟨e1, r1, M1, P1, S1⟩ := hI
    have ho := dN_ok hO y i
    have h1 := ho.1
    have ex : (s.1 * (6364136223846793005 : Int64)) + (1442695040888963407 : Int64) = xN y (i + 1) := by rw [e1]; rfl
    obtain ⟨z, hz⟩ : ∃ z, z = zr (xN y (i + 1)) := ⟨_, rfl⟩
    have hzz := zr_in (xN y (i + 1))
    rw [← hz] at hzz
    obtain ⟨z1, z2⟩ := hzz
    have g := rs_in ho z1
    have g9 := ho.g9 g
    have hcn := ho.cn g
    have hce := cel_in g9
    obtain ⟨⟨d1, d2, d3, d4⟩, m1, m2, m3⟩ := div3 z1 z2
    obtain ⟨o1, g1, c1⟩ := rs1_ok ho z1
    have w0 : zai T s.2 (b + 354 + 4) (iZ 0) = some (iZ (dN e y i 0 0)) := by rw [zai_p M1 (by omega) (by omega), ← P1.1.w]; rfl
    have w1 : zai T s.2 (b + 354 + 4) (iZ 1) = some (iZ (dN e y i 0 1)) := by rw [zai_p M1 (by omega) (by omega), ← P1.1.v]; rfl
    have eN : dN e y (i + 1) = rs (dN e y i) z := by rw [hz]; rfl
    by_cases c : cn (dN e y i) (z % dN e y i 0 0) (z / 16 % dN e y i 0 1) < 2
    · have er : rs1 (dN e y i) z = dN e y i := by unfold rs1; rw [if_pos c]
      obtain ⟨h2, e2, M2, f2⟩ := writeOn_eq (s := z / 256 % 27) (k := z / 8192 % 4) (w := z / 65536 % 9) M1 hce.1 hce.2 hcn.1 c (P1.1.c _ _ g)
      have S2 := S1.trial7 M2 f2
      refine ⟨(xN y (i + 1), h2), ?_, rfl, _, M2, (by rw [eN]; unfold rs; rw [er]; exact Pg_add P1 ho g c), S2⟩
      show LX7_simulate_45 T (b + 354) (iZ m) K0 (k + 1) s.1 (iZ i) s.2 = _
      rw [LX7_simulate_45.eq_2, if_neg (by rw [iZ_le (by omega) (by omega) (by omega) (by omega)]; omega), ex, zr_eq, ← hz]
      simp only [zJn]
      rw [mo_r6 S1.mo0, zsn, q0, w0, zsn, zremI_iZ z1 z2 (by omega) (by omega), zsn, q16_, d1, zsn, zsn, q1, w1, zsn, zremI_iZ (by omega) (by omega) (by omega) (by omega), zsn, cellAt_eq, zsn, zsn, zai_c M1 P1.1 ho g, zsn, q2, if_neg (by rw [iZ_eq (by omega) (by omega) (by omega) (by omega)]; omega), zsn, q256_, d2, zsn, q27_, m1, zsn, q8192_, d3, zsn, q4, m2, zsn, q65536_, d4, zsn, q9, m3, zsn, e2, zb2n, iZ_add]
    · have er : rs1 (dN e y i) z = drem (dN e y i) (z % dN e y i 0 0) (z / 16 % dN e y i 0 1) 0 := by unfold rs1; rw [if_neg c]
      obtain ⟨h2, e2, M2, f2⟩ := eraseOn_eq (i := 0) M1 hce.1 hce.2 (by omega) (by omega)
      have S2 := S1.trial7 M2 f2
      have P2 := Pg_rem P1 ho g (i := 0) (by omega) (by omega)
      rw [er] at o1 g1 c1
      have hcn1 := o1.cn g1
      obtain ⟨h3, e3, M3, f3⟩ := writeOn_eq (s := z / 256 % 27) (k := z / 8192 % 4) (w := z / 65536 % 9) M2 hce.1 hce.2 hcn1.1 c1 (P2.1.c _ _ g1)
      have S3 := S2.trial7 M3 f3
      refine ⟨(xN y (i + 1), h3), ?_, rfl, _, M3, (by rw [eN]; unfold rs; rw [er]; exact Pg_add P2 o1 g1 c1), S3⟩
      show LX7_simulate_45 T (b + 354) (iZ m) K0 (k + 1) s.1 (iZ i) s.2 = _
      rw [LX7_simulate_45.eq_2, if_neg (by rw [iZ_le (by omega) (by omega) (by omega) (by omega)]; omega), ex, zr_eq, ← hz]
      simp only [zJn]
      rw [mo_r6 S1.mo0, zsn, q0, w0, zsn, zremI_iZ z1 z2 (by omega) (by omega), zsn, q16_, d1, zsn, zsn, q1, w1, zsn, zremI_iZ (by omega) (by omega) (by omega) (by omega), zsn, cellAt_eq, zsn, zsn, zai_c M1 P1.1 ho g, zsn, q2, if_pos (by congr 1; omega), zsn, e2, zb2n, mo_r6 S2.mo0, zsn, q256_, d2, zsn, q27_, m1, zsn, q8192_, d3, zsn, q4, m2, zsn, q65536_, d4, zsn, q9, m3, zsn, e3, zb2n, iZ_add]
  · show LX7_simulate_45 T (b + 354) (iZ m) K0 (k + 1) s.1 (iZ m) s.2 = _
    rw [LX7_simulate_45.eq_2, if_pos (by exact Int32.le_refl _)]
  · rintro s ⟨e1, e2, rt', M', P', S'⟩
    exact ⟨s.2, rt', e1, M', P', S'⟩
theorem St.wh4 (S : St T h b o n tx d cnt nxt dd fl ds fs v tx7 r D kp kb x) {rt : Nat → Int} (M : Arr T h (b + 354 + 4) 739 rt) : ∃ bg sg wo, WH T h (b + 354) (b + 354 + 4) rt v bg sg wo := by
  obtain ⟨bg, sg, wo, H⟩ := S.wh
  exact ⟨bg, sg, wo, H.1, H.2.1, H.2.2.1, H.2.2.2.1, M⟩
/-- a letter of the trial sheet is read -/
theorem St.rt (S : St T h b o n tx d cnt nxt dd fl ds fs v tx7 r D kp kb x) {e : Nat → Nat → Int} (M : ShAt T h (b + 21) e) (hO : OkD e) {L : Nat} (hL : L < 2) : ∃ h' w0, FX2_readLetter T (b + 336) (b + 21) (iZ L) (iZ (e 0 3)) h = some (iZ (wall e L (e 3 L) w0 (nL e (e 3 L)) 0 0), h') ∧ RdAt T h' (b + 336) (wall e L (e 3 L) w0 (nL e (e 3 L))) ∧ ShAt T h' (b + 21) e ∧ St T h' b o n tx d cnt nxt dd fl ds fs v tx7 r D kp kb x ∧ RdNew w0 := by
  have S3 : ∃ w, RdAt T h (b + 336) w ∧ RdIn w := S.2.2.1 3 (by omega)
  obtain ⟨w, hR, hI⟩ := S3
  obtain ⟨h', w0, q, R1, f1, N1⟩ := readLetter_eq hR hI M hO (by omega) hL
  exact ⟨h', w0, q, R1, f1.sh M (by omega), S.sc (i := 3) (by omega) ⟨_, R1, (rdok hO N1).rin⟩ (fun q hq => f1 q hq), N1⟩
theorem q1000 : (1000 : Int32) = iZ 1000 := rfl
theorem l99 : (99 : Int64) = lZ 99 := rfl
theorem q99 : (99 : Int32) = iZ 99 := rfl
theorem c_simulate (S : St T h b o n tx d cnt nxt dd fl ds fs v tx7 r D kp kb x) (R : Rel n tx d cnt nxt dd fl ds fs v tx7 r D kp kb) (y : Int64) {p : Int} (p1 : -2147483648 ≤ p) (p2 : p < 2147483648) : Rnd T b o (FL_simulate T b y (iZ p) o h) (FX7_simulate T (b + 354) y (iZ p)) := by
  have hO := R.2.1.1
  have hP := R.2.1.2
  unfold FL_simulate
  by_cases gp : 1 ≤ p ∧ p ≤ 99
  case neg =>
    obtain ⟨j1, g1, J1⟩ := S.no R (c := 1) (by omega) (by omega)
    refine rnd_ex (E := "java/lang/IllegalArgumentException") (h' := h) (c := 1) (by omega) ?_ ?_ ⟨0, j1, by omega, ?_, J1⟩
    · unfold FX6_simulate
      rw [cs_zo S.cs0, zsn, q1, q99, chkArg_f p1 p2 (by omega) (by omega) (by omega) (by omega) gp, zbx_er]
    · rw [if_pos rfl, q1]
    · unfold FX7_simulate
      rw [mo_zo S.mo0, zsn]
      simp only [zJn]
      rw [iZ_long p1 p2, l1, l99, in_f p1 p2 (by omega) (by omega) (by omega) (by omega) gp, zsn, q0, if_pos rfl, q1, g1, zb2n, if_neg (by decide)]
  obtain ⟨m, rfl⟩ : ∃ m : Nat, p = m := ⟨p.toNat, by omega⟩
  obtain ⟨h1, e, e1, hs, M1, S1⟩ := S.tt
  have hOe := OkD_same hs hO
  have hoN := dN_ok hOe y m
  obtain ⟨h2, e2, M2, S2⟩ := sim6 S1 M1 hOe y (m := m) (by omega) (fun (h15 : zH) => (zgr h15 b 6 8).bind fun x16 => (zgr h15 b 6 4).bind fun x17 => (zgr h15 b 6 4).bind fun x18 => (zgi h15 x18 3 3).bind fun x19 => zb2 (FX2_readLetter T x16 x17 (iZ 0) x19 h15) fun x21 h22 => (zgr h22 b 6 8).bind fun x23 => (zgr h22 b 6 4).bind fun x24 => (zgr h22 b 6 4).bind fun x25 => (zgi h22 x25 3 3).bind fun x26 => zb2 (FX2_readLetter T x23 x24 (iZ 1) x26 h22) fun x28 h29 => (zgr h29 b 6 4).bind fun x30 => (FX3_countDoubtful T x30 h29).bind fun x32 => some (Except.ok (ε := String) (((iZ 1000) * (x21 + x28)) + x32), h29))
  obtain ⟨h3, w0, e3, R3, M3, S3, N3⟩ := S2.rt M2 hoN (L := 0) (by omega)
  obtain ⟨h4, w1, e4, R4, M4, S4, N4⟩ := S3.rt M3 hoN (L := 1) (by omega)
  have hW3 := rdok (L := 0) hoN N3
  have hW4 := rdok (L := 1) hoN N4
  have a1 := hW3.1
  have a2 := hW3.2.1
  have a3 := hW4.1
  have a4 := hW4.2.1
  have hdb := dbt_162 hoN
  have e3' : FX2_readLetter T (b + 336) (b + 21) (iZ 0) (iZ (dN e y m 0 3)) h2 = _ := e3
  have e4' : FX2_readLetter T (b + 336) (b + 21) (iZ 1) (iZ (dN e y m 0 3)) h3 = _ := e4
  refine rnd_ok (h' := h4) (val := 1000 * (wall (dN e y m) (0 : Nat) (dN e y m 3 0) w0 (nL (dN e y m) (dN e y m 3 0)) 0 0 + wall (dN e y m) (1 : Nat) (dN e y m 3 1) w1 (nL (dN e y m) (dN e y m 3 1)) 0 0) + gsum (dN e y m) (dbt (dN e y m))) (by omega) ?_ S4 (fun q K => ?_)
  · unfold FX6_simulate
    rw [cs_zo S.cs0, zsn, q1, q99, chkArg_t (by omega) (by omega) gp, zbx_ok, cs_r4 S.cs0, zsn, cs_r3 S.cs0, zsn, e1, zsn, q0, q1000]
    refine Eq.trans (show _ = _ from e2) ?_
    show ((zgr h2 b 6 8).bind fun x16 => (zgr h2 b 6 4).bind fun x17 => (zgr h2 b 6 4).bind fun x18 => (zgi h2 x18 3 3).bind fun x19 => zb2 (FX2_readLetter T x16 x17 (iZ 0) x19 h2) fun x21 h22 => (zgr h22 b 6 8).bind fun x23 => (zgr h22 b 6 4).bind fun x24 => (zgr h22 b 6 4).bind fun x25 => (zgi h22 x25 3 3).bind fun x26 => zb2 (FX2_readLetter T x23 x24 (iZ 1) x26 h22) fun x28 h29 => (zgr h29 b 6 4).bind fun x30 => (FX3_countDoubtful T x30 h29).bind fun x32 => some (Except.ok (ε := String) (((iZ 1000) * (x21 + x28)) + x32), h29)) = _
    rw [cs_r8 S2.cs0, zsn, cs_r4 S2.cs0, zsn, zsn, sh_g3 M2, zsn, e3', zb2n, cs_r8 S3.cs0, zsn, cs_r4 S3.cs0, zsn, zsn, sh_g3 M3, zsn, e4', zb2n, cs_r4 S4.cs0, zsn, countDoubtful_eq M4 hoN, zsn, iZ_add, iZ_mul, iZ_add]
  · obtain ⟨k1, g1, K1⟩ := K.yes
    obtain ⟨k2, r1, g2, hr1, A2, K2⟩ := K1.tt7
    obtain ⟨k3, r3, g3, A3, P3, K3⟩ := sim7 K2 A2 (Pg_same hs hO hP hr1) hOe y (m := m) (by omega) (fun (h46 : zH) => (zgr h46 (b + 354) 7 6).bind fun x47 => zb2 (FX7_allWords T (b + 354) x47 h46) fun x49 h50 => (zgr h50 (b + 354) 7 6).bind fun x51 => (FX7_doubts T x51 h50).bind fun x53 => some (((iZ 1000 * x49) + x53), h50))
    obtain ⟨bg, sg, wo, H3⟩ := K3.wh4 A3
    obtain ⟨k4, v4, bg4, sg4, wo4, g4, H4, lo4, f4⟩ := allW_eq H3 (by omega) (by omega) (by omega) (by omega) P3 hoN N3 N4
    have K4 := K3.lay H4 f4
    refine ⟨k4, ?_, K4.fin ((R.ref 0).vv (lo4 2 (by omega)) (lo4 9 (by omega))) ((lo4 0 (by omega)).trans (upZ_self _ _ _))⟩
    unfold FX7_simulate
    rw [mo_zo K.mo0, zsn]
    simp only [zJn]
    rw [iZ_long p1 p2, l1, l99, in_t (by omega) (by omega) (by omega) (by omega) (by omega) (by omega) gp, zsn, q0, if_neg (by decide), g1, zb2n, if_pos rfl, mo_r5 K1.mo0, zsn, mo_r6 K1.mo0, zsn, g2, zsn, q1000]
    refine Eq.trans (show _ = _ from g3) ?_
    show ((zgr k3 (b + 354) 7 6).bind fun x47 => zb2 (FX7_allWords T (b + 354) x47 k3) fun x49 h50 => (zgr h50 (b + 354) 7 6).bind fun x51 => (FX7_doubts T x51 h50).bind fun x53 => some (((iZ 1000 * x49) + x53), h50)) = _
    rw [mo_r6 K3.mo0, zsn, g4, zb2n, mo_r6 K4.mo0, zsn, doubts_eq H4.2.2.2.2 P3 hoN, zsn, iZ_mul, iZ_add]
end Sm
