/-! call: simulate -/
def zr (y : Int64) : Int := ((zlushr y 33).toInt32).toInt
theorem zr_in (y : Int64) : 0 ≤ zr y ∧ zr y < 2147483648 := by
  have h0 : zlushr y 33 = (y.toUInt64 >>> (33 : UInt64)).toInt64 := by
    unfold zlushr
    rw [show ((33 : Int32).toInt64.toUInt64 &&& Int64.toUInt64 63) = (33 : UInt64) from by decide]
  have h1 : (y.toUInt64 >>> (33 : UInt64)).toNat < 2147483648 := by
    rw [UInt64.toNat_shiftRight, show (33 : UInt64).toNat % 64 = 33 from by decide, Nat.shiftRight_eq_div_pow]
    have := y.toUInt64.toNat_lt
    omega
  have h2 : (zlushr y 33).toInt = ((y.toUInt64 >>> (33 : UInt64)).toNat : Int) := by
    rw [h0]
    show (y.toUInt64 >>> (33 : UInt64)).toBitVec.toInt = _
    rw [BitVec.toInt_eq_toNat_of_lt (by
      show 2 * (y.toUInt64 >>> (33 : UInt64)).toNat < 2 ^ 64
      omega)]
    rfl
  have h3 : (zlushr y 33).toInt32 = iZ ((y.toUInt64 >>> (33 : UInt64)).toNat : Int) := by
    rw [← h2]
    show _ = Int32.ofInt (zlushr y 33).toInt
    rw [← Int64.toInt32_ofInt, Int64.ofInt_toInt]
  unfold zr
  rw [h3, iZ_toInt (by omega) (by omega)]
  omega
theorem zr_eq (y : Int64) : (zlushr y 33).toInt32 = iZ (zr y) := (iZ_of _).symm
def nxs (x : Int64) : Int64 := (x * (6364136223846793005 : Int64)) + (1442695040888963407 : Int64)
def rs1 (d : Nat → Nat → Int) (z : Int) : Nat → Nat → Int := if cn d (z % d 0 0) (z / 16 % d 0 1) < 2 then d else drem d (z % d 0 0) (z / 16 % d 0 1) 0
def rs (d : Nat → Nat → Int) (z : Int) : Nat → Nat → Int := dadd (rs1 d z) (z % d 0 0) (z / 16 % d 0 1) (z / 256 % 27) (z / 8192 % 4) (z / 65536 % 9)
theorem rs_in {d : Nat → Nat → Int} (hO : OkD d) {z : Int} (z1 : 0 ≤ z) : inG d (z % d 0 0) (z / 16 % d 0 1) := by
  have h1 := hO.1
  have a1 := Int.emod_nonneg z (show d 0 0 ≠ 0 by omega)
  have a2 := Int.emod_lt_of_pos z (show 0 < d 0 0 by omega)
  have a3 := Int.emod_nonneg (z / 16) (show d 0 1 ≠ 0 by omega)
  have a4 := Int.emod_lt_of_pos (z / 16) (show 0 < d 0 1 by omega)
  exact ⟨a1, a2, a3, a4⟩
theorem rs1_ok {d : Nat → Nat → Int} (hO : OkD d) {z : Int} (z1 : 0 ≤ z) : OkD (rs1 d z) ∧ inG (rs1 d z) (z % d 0 0) (z / 16 % d 0 1) ∧ cn (rs1 d z) (z % d 0 0) (z / 16 % d 0 1) < 2 := by
  have g := rs_in hO z1
  have g9 := hO.g9 g
  have hcn := hO.cn g
  unfold rs1
  by_cases c : cn d (z % d 0 0) (z / 16 % d 0 1) < 2
  · rw [if_pos c]; exact ⟨hO, g, c⟩
  · rw [if_neg c]
    refine ⟨OkD_rem hO g (by omega) (by omega), (inG_row (drem_lo (by omega))).mpr g, ?_⟩
    rw [drem_cn g9 g9, if_pos ⟨rfl, rfl⟩]
    omega
theorem rs_ok {d : Nat → Nat → Int} (hO : OkD d) {z : Int} (z1 : 0 ≤ z) : OkD (rs d z) := by
  obtain ⟨a, g, c⟩ := rs1_ok hO z1
  have b1 := Int.emod_nonneg (z / 256) (show (27 : Int) ≠ 0 by omega)
  have b2 := Int.emod_lt_of_pos (z / 256) (show (0 : Int) < 27 by omega)
  have b3 := Int.emod_nonneg (z / 8192) (show (4 : Int) ≠ 0 by omega)
  have b4 := Int.emod_lt_of_pos (z / 8192) (show (0 : Int) < 4 by omega)
  have b5 := Int.emod_nonneg (z / 65536) (show (9 : Int) ≠ 0 by omega)
  have b6 := Int.emod_lt_of_pos (z / 65536) (show (0 : Int) < 9 by omega)
  exact OkD_add a g c b1 (by omega) b3 (by omega) b5 (by omega)
def xN (x : Int64) : Nat → Int64
  | 0 => x
  | k + 1 => nxs (xN x k)
def dN (e : Nat → Nat → Int) (x : Int64) : Nat → Nat → Nat → Int
  | 0 => e
  | k + 1 => rs (dN e x k) (zr (xN x (k + 1)))
theorem dN_ok {e : Nat → Nat → Int} (hO : OkD e) (x : Int64) : ∀ k, OkD (dN e x k)
  | 0 => hO
  | k + 1 => rs_ok (dN_ok hO x k) (zr_in _).1
section Sm
variable {T : zT} {hz h : zH} {b o : Nat} {n : Int} {tx : Nat → Int} {d : Nat → Nat → Int} {cnt nxt : Int} {dd : Nat → Nat → Nat → Int} {fl : Nat → Int} {ds : Nat → Nat → Nat → Int} {fs v tx7 r D kp kb : Nat → Int} {x : Int64}
theorem rem6 {p m : Int} (p1 : 0 ≤ p) (p2 : p < 2147483648) (m1 : 1 ≤ m) (m2 : m ≤ 9) : FX6_remainder T (iZ p) (iZ m) h = some (iZ (p % m)) := by
  unfold FX6_remainder
  simp only [zJn]
  rw [q0, if_neg (by rw [iZ_le (by omega) (by omega) (by omega) (by omega)]; omega), zremI_iZ p1 p2 (by omega) (by omega), zsn]
theorem q16_ : (16 : Int32) = iZ 16 := rfl
theorem q256_ : (256 : Int32) = iZ 256 := rfl
theorem q27_ : (27 : Int32) = iZ 27 := rfl
theorem q8192_ : (8192 : Int32) = iZ 8192 := rfl
theorem q65536_ : (65536 : Int32) = iZ 65536 := rfl
theorem div3 {z : Int} (z1 : 0 ≤ z) (z2 : z < 2147483648) : (zdivI (iZ z) (iZ 16) = some (iZ (z / 16)) ∧ zdivI (iZ z) (iZ 256) = some (iZ (z / 256)) ∧ zdivI (iZ z) (iZ 8192) = some (iZ (z / 8192)) ∧ zdivI (iZ z) (iZ 65536) = some (iZ (z / 65536))) ∧ (zremI (iZ (z / 256)) (iZ 27) = some (iZ (z / 256 % 27)) ∧ zremI (iZ (z / 8192)) (iZ 4) = some (iZ (z / 8192 % 4)) ∧ zremI (iZ (z / 65536)) (iZ 9) = some (iZ (z / 65536 % 9))) := by
  refine ⟨⟨zdivI_iZ z1 z2 (by omega) (by omega), zdivI_iZ z1 z2 (by omega) (by omega), zdivI_iZ z1 z2 (by omega) (by omega), zdivI_iZ z1 z2 (by omega) (by omega)⟩, zremI_iZ (by omega) (by omega) (by omega) (by omega), zremI_iZ (by omega) (by omega) (by omega) (by omega), zremI_iZ (by omega) (by omega) (by omega) (by omega)⟩
theorem play6 (S : St T hz h b n tx d cnt nxt dd fl ds fs) {e : Nat → Nat → Int} (M : ShAt T h (b + 21) e) (hO : OkD e) {z : Int} (z1 : 0 ≤ z) (z2 : z < 2147483648) : ∃ h', FX6_playRound T b (iZ z) h = some h' ∧ ShAt T h' (b + 21) (rs e z) ∧ St T hz h' b n tx d cnt nxt dd fl ds fs := by
  have h1 := hO.1
  have g := rs_in hO z1
  have g9 := hO.g9 g
  have hcn := hO.cn g
  obtain ⟨⟨d1, d2, d3, d4⟩, m1, m2, m3⟩ := div3 z1 z2
  have r1 : FX6_remainder T (iZ z) (iZ (e 0 0)) h = some (iZ (z % e 0 0)) := rem6 z1 z2 (by omega) (by omega)
  have r2 : FX6_remainder T (iZ (z / 16)) (iZ (e 0 1)) h = some (iZ (z / 16 % e 0 1)) := rem6 (by omega) (by omega) (by omega) (by omega)
  obtain ⟨o1, g1, c1⟩ := rs1_ok hO z1
  by_cases c : cn e (z % e 0 0) (z / 16 % e 0 1) < 2
  · have er : rs1 e z = e := by unfold rs1; rw [if_pos c]
    obtain ⟨h2, e2, M2, f2⟩ := addMark_eq (s := z / 256 % 27) (k := z / 8192 % 4) (w := z / 65536 % 9) M hO g c
    have S2 := S.trial M2 f2
    refine ⟨h2, ?_, (by unfold rs; rw [er]; exact M2), S2⟩
    unfold FX6_playRound
    rw [cs_zo S.cs0, zsn]
    simp only [zJn]
    rw [cs_r4 S.cs0, zsn, sh_g0 M, zsn, r1, zsn, q16_, d1, zsn, zsn, sh_g1 M, zsn, r2, zsn, zsn, hasRoom_t M hO g c, zsn, q0, if_neg (by decide), zsn, q256_, d2, zsn, q27_, m1, zsn, q8192_, d3, zsn, q4, m2, zsn, q65536_, d4, zsn, q9, m3, zsn, e2, zsn]
  · have er : rs1 e z = drem e (z % e 0 0) (z / 16 % e 0 1) 0 := by unfold rs1; rw [if_neg c]
    obtain ⟨h2, e2, M2, f2⟩ := removeMark_eq (i := 0) M hO g (by omega) (by omega)
    have S2 := S.trial M2 f2
    rw [er] at o1 g1 c1
    obtain ⟨h3, e3, M3, f3⟩ := addMark_eq (s := z / 256 % 27) (k := z / 8192 % 4) (w := z / 65536 % 9) M2 o1 g1 c1
    have S3 := S2.trial M3 f3
    refine ⟨h3, ?_, (by unfold rs; rw [er]; exact M3), S3⟩
    unfold FX6_playRound
    rw [cs_zo S.cs0, zsn]
    simp only [zJn]
    rw [cs_r4 S.cs0, zsn, sh_g0 M, zsn, r1, zsn, q16_, d1, zsn, zsn, sh_g1 M, zsn, r2, zsn, zsn, hasRoom_f M hO (by omega) (by omega) (by omega) (by omega) (fun w => c w.2), zsn, q0, if_pos rfl, zsn, e2, zsn, cs_r4 S2.cs0, zsn, q256_, d2, zsn, q27_, m1, zsn, q8192_, d3, zsn, q4, m2, zsn, q65536_, d4, zsn, q9, m3, zsn, e3, zsn]
theorem sim6 (S : St T hz h b n tx d cnt nxt dd fl ds fs) {e : Nat → Nat → Int} (M : ShAt T h (b + 21) e) (hO : OkD e) (y : Int64) {m : Nat} (hm : m < 100) {ρ : Type} (K0 : zH → Option ρ) : ∃ h', LX6_simulate_24 T b (iZ m) K0 FUEL y (iZ 0) h = K0 h' ∧ ShAt T h' (b + 21) (dN e y m) ∧ St T hz h' b n tx d cnt nxt dd fl ds fs := by
  refine Exists.elim (loop_st (L := fun k i (s : Int64 × zH) => LX6_simulate_24 T b (iZ m) K0 k s.1 i s.2) (K := fun s => K0 s.2) (I := fun j s => s.1 = xN y j ∧ ShAt T s.2 (b + 21) (dN e y j) ∧ St T hz s.2 b n tx d cnt nxt dd fl ds fs) (n := m) (by omega) (fun k i s hi hI => ?_) (fun k s hI => ?_) (s := (y, h)) ⟨rfl, M, S⟩) ?_
  · obtain ⟨e1, M1, S1⟩ := hI
    have hz := zr_in (xN y (i + 1))
    obtain ⟨h2, e2, M2, S2⟩ := play6 S1 M1 (dN_ok hO y i) hz.1 hz.2
    refine ⟨(xN y (i + 1), h2), ?_, rfl, M2, S2⟩
    have ex : (s.1 * (6364136223846793005 : Int64)) + (1442695040888963407 : Int64) = xN y (i + 1) := by rw [e1]; rfl
    show LX6_simulate_24 T b (iZ m) K0 (k + 1) s.1 (iZ i) s.2 = _
    rw [LX6_simulate_24.eq_2, if_neg (by rw [iZ_le (by omega) (by omega) (by omega) (by omega)]; omega), ex, zr_eq, e2, zsn, q1, iZ_add]
  · show LX6_simulate_24 T b (iZ m) K0 (k + 1) s.1 (iZ m) s.2 = _
    rw [LX6_simulate_24.eq_2, if_pos (by exact Int32.le_refl _)]
  · rintro s ⟨e1, e2, M', S'⟩
    exact ⟨s.2, e1, M', S'⟩
/-- a letter of the trial sheet is read -/
theorem St.rt (S : St T hz h b n tx d cnt nxt dd fl ds fs) {e : Nat → Nat → Int} (M : ShAt T h (b + 21) e) (hO : OkD e) {L : Nat} (hL : L < 2) : ∃ h' w0, FX2_readLetter T (b + 336) (b + 21) (iZ L) (iZ (e 0 3)) h = some (iZ (wall e L (e 3 L) w0 (nL e (e 3 L)) 0 0), h') ∧ RdAt T h' (b + 336) (wall e L (e 3 L) w0 (nL e (e 3 L))) ∧ ShAt T h' (b + 21) e ∧ St T hz h' b n tx d cnt nxt dd fl ds fs ∧ RdNew w0 := by
  have S3 : ∃ w, RdAt T h (b + 336) w ∧ RdIn w := S.2.2.1 3 (by omega)
  obtain ⟨w, hR, hI⟩ := S3
  obtain ⟨h', w0, q, R1, f1, N1⟩ := readLetter_eq hR hI M hO (by omega) hL
  exact ⟨h', w0, q, R1, f1.sh M (by omega), S.sc (i := 3) (by omega) ⟨_, R1, (rdok hO N1).rin⟩ (fun q hq => f1 q hq), N1⟩
theorem q1000 : (1000 : Int32) = iZ 1000 := rfl
theorem l99 : (99 : Int64) = lZ 99 := rfl
theorem q99 : (99 : Int32) = iZ 99 := rfl
end Sm
