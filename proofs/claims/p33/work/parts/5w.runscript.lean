/-! call: runScript, as a whole -/
def p5 : Nat → Int
  | 0 => 1
  | n + 1 => p5 n * 100000
theorem p5_pos (n : Nat) : 0 < p5 n := by
  induction n with
  | zero => decide
  | succ n ih => show 0 < p5 n * 100000; omega
theorem div_p5 (z : Int) (n : Nat) : z / p5 (n + 1) = z / p5 n / 100000 := by
  show z / (p5 n * 100000) = _
  rw [Int.ediv_ediv_of_nonneg (Int.le_of_lt (p5_pos n))]
theorem p5_v : p5 0 = 1 ∧ p5 1 = 100000 ∧ p5 2 = 10000000000 ∧ p5 3 = 1000000000000000 := ⟨rfl, by decide, by decide, by decide⟩
theorem l1e5 : (100000 : Int64) = lZ 100000 := rfl
def rJ (x : Int64) : Nat → Int64
  | 0 => x
  | i + 1 => rJ x i / 100000
def gJ (x : Int64) (i : Nat) : Int := ((rJ x i - rJ x i / 100000 * 100000).toInt32).toInt
theorem rJ_eq {z : Int} (z1 : 0 ≤ z) (z2 : z < 9223372036854775808) : ∀ i : Nat, rJ (lZ z) i = lZ (z / p5 i)
  | 0 => by
    show lZ z = lZ (z / 1)
    rw [Int.ediv_one]
  | i + 1 => by
    have h := p5_pos i
    have h1 : 0 ≤ z / p5 i := Int.ediv_nonneg z1 (by omega)
    have h2 : z / p5 i ≤ z := Int.ediv_le_self _ z1
    show rJ (lZ z) i / 100000 = _
    rw [rJ_eq z1 z2 i, l1e5, lZ_div h1 (by omega) (by omega) (by omega), div_p5]
theorem gJ_eq {z : Int} (z1 : 0 ≤ z) (z2 : z < 9223372036854775808) (i : Nat) : gJ (lZ z) i = z / p5 i % 100000 := by
  have h := p5_pos i
  have h1 : 0 ≤ z / p5 i := Int.ediv_nonneg z1 (by omega)
  have h2 : z / p5 i ≤ z := Int.ediv_le_self _ z1
  unfold gJ
  rw [rJ_eq z1 z2, l1e5, lZ_div h1 (by omega) (by omega) (by omega), lZ_mul, lZ_sub, lZ_i32, show z / p5 i - z / p5 i / 100000 * 100000 = z / p5 i % 100000 from by omega, iZ_toInt (by omega) (by omega)]
section Rv
variable {T : zT} {hz h : zH} {b o : Nat} {n : Int} {tx : Nat → Int} {d : Nat → Nat → Int} {cnt nxt : Int} {dd : Nat → Nat → Nat → Int} {fl : Nat → Int} {ds : Nat → Nat → Nat → Int} {fs v tx7 r D kp kb : Nat → Int} {x : Int64}
theorem scr6 (S : St T hz h b n tx d cnt nxt dd fl ds fs) {m : Nat} (m1 : 1 ≤ m) (m2 : m ≤ 3) (y : Int64) : ∃ h' cm, FX6_splitScript T b (iZ m) y h = some (iZ (ind (0 ≤ y.toInt ∧ rJ y m = 0)), h') ∧ Num T h' (b + 352) 3 cm ∧ (∀ t : Nat, t < m → cm (m - 1 - t) = gJ y t) ∧ St T hz h' b n tx d cnt nxt dd fl ds fs := by
  have A : ∃ f, Num T h (b + 352) 3 f := S.2.2.1 6 (by omega)
  obtain ⟨w0, A0⟩ := A
  refine Exists.elim (loop_st (L := fun k i (s : Int64 × zH) => LX6_splitScript_8 T b y (fun (x11 : Int64) (h12 : zH) => zJ (fun (x13 : Int32) => if x13 = iZ 0 ∨ x13 = iZ 1 then some (x13, h12) else none) (fun J14 => zJ (fun (u9 : Unit) => J14 (iZ 0)) (fun J15 => if (lg_cmp y (0 : Int64)) < iZ 0 then (J15 ()) else (if (lg_cmp x11 (0 : Int64)) = iZ 0 then (J14 (iZ 1)) else (J15 ()))))) k s.1 (iZ ((m : Int) - 1) - i) s.2) (K := fun s => (fun (x11 : Int64) (h12 : zH) => zJ (fun (x13 : Int32) => if x13 = iZ 0 ∨ x13 = iZ 1 then some (x13, h12) else none) (fun J14 => zJ (fun (u9 : Unit) => J14 (iZ 0)) (fun J15 => if (lg_cmp y (0 : Int64)) < iZ 0 then (J15 ()) else (if (lg_cmp x11 (0 : Int64)) = iZ 0 then (J14 (iZ 1)) else (J15 ()))))) s.1 s.2) (I := fun j s => s.1 = rJ y j ∧ ∃ wn, Num T s.2 (b + 352) 3 wn ∧ (∀ t : Nat, t < j → wn (m - 1 - t) = gJ y t) ∧ St T hz s.2 b n tx d cnt nxt dd fl ds fs) (n := m) (by omega) (fun k i s hi hI => ?_) (fun k s hI => ?_) (s := (y, h)) ⟨rfl, w0, A0, fun t ht => by omega, S⟩) ?_
  · obtain ⟨e1, wn, A1, e3, S1⟩ := hI
    obtain ⟨h2, g2, A2, f2⟩ := put_in (i := (m : Int) - 1 - i) (v := gJ y i) A1 (by omega) (by omega) (by omega)
    have S2 := S1.sc (i := 6) (by omega) ⟨_, A2⟩ (fun q hq => f2 q (by rw [show slo 6 = 352 from rfl, show shi 6 = 353 from rfl] at hq; omega))
    have ep : (rJ y i - rJ y i / 100000 * 100000).toInt32 = iZ (gJ y i) := (iZ_of _).symm
    have ez : zremL (rJ y i) 100000 = some (rJ y i - rJ y i / 100000 * 100000) := if_neg (by decide)
    have ed : zdivL (rJ y i) 100000 = some (rJ y i / 100000) := if_neg (by decide)
    refine ⟨(rJ y (i + 1), h2), ?_, rfl, _, A2, fun t ht => ?_, S2⟩
    · show LX6_splitScript_8 T b y _ (k + 1) s.1 (iZ ((m : Int) - 1) - iZ i) s.2 = _
      rw [e1, LX6_splitScript_8.eq_2, iZ_sub, q0, if_neg (by rw [iZ_lt (by omega) (by omega) (by omega) (by omega)]; omega), cs_r11 S1.cs0, zsn, ez, zsn, ep, g2, zsn, ed, zsn, qm1, iZ_add]
      show LX6_splitScript_8 T b y _ k (rJ y i / 100000) (iZ ((m : Int) - 1 - i + -1)) h2 = LX6_splitScript_8 T b y _ k (rJ y i / 100000) (iZ ((m : Int) - 1) - iZ ((i : Int) + 1)) h2
      rw [iZ_sub, show (m : Int) - 1 - ((i : Int) + 1) = (m : Int) - 1 - i + -1 from by omega]
    · have ec : ((m : Int) - 1 - i).toNat = m - 1 - i := by omega
      rw [ec]
      by_cases c : t = i
      · rw [c, upZ_self]
      · rw [upZ_ne _ _ (by omega)]; exact e3 t (by omega)
  · show LX6_splitScript_8 T b y _ (k + 1) s.1 (iZ ((m : Int) - 1) - iZ m) s.2 = _
    rw [LX6_splitScript_8.eq_2, iZ_sub, q0, if_pos (by rw [iZ_lt (by omega) (by omega) (by omega) (by omega)]; omega)]
  · rintro s ⟨e0, e1, wn, A1, e3, S1⟩
    refine ⟨s.2, wn, ?_, A1, e3, S1⟩
    unfold FX6_splitScript
    rw [cs_zo S.cs0, zsn, q0, q1, iZ_sub]
    rw [iZ_sub, Int.sub_zero] at e0
    refine Eq.trans (show _ = _ from e0) ?_
    simp only [zJn]
    rw [e1]
    have hy0 : (lg_cmp y 0 < iZ 0) ↔ ¬ 0 ≤ y.toInt := by
      rw [← q0, lg_lt, Int64.lt_iff_toInt_lt, show (0 : Int64).toInt = 0 from rfl]
      omega
    by_cases c : 0 ≤ y.toInt
    · rw [if_neg (fun z => hy0.mp z c)]
      by_cases c2 : rJ y m = 0
      · rw [if_pos (show lg_cmp (rJ y m) 0 = iZ 0 from lg_eq0.mpr c2), if_pos (Or.inr trivial), ind_t ⟨c, c2⟩]
      · rw [if_neg (show ¬ lg_cmp (rJ y m) 0 = iZ 0 from fun z => c2 (lg_eq0.mp z)), if_pos (Or.inl trivial), ind_f (fun z => c2 z.2)]
    · rw [if_pos (hy0.mpr c), if_pos (Or.inl trivial), ind_f (fun z => c z.1)]
theorem grp_eq {z : Int} (z1 : 0 ≤ z) {j : Nat} (hj : j < 3) : z % p5 (j + 1) / p5 j = z / p5 j % 100000 ∧ z % p5 (j + 1) % p5 j = z % p5 j ∧ p5 (j + 1) / 100000 = p5 j ∧ (1 ≤ p5 j ∧ p5 j ≤ 10000000000) ∧ p5 (j + 1) ≤ 1000000000000000 := by
  obtain ⟨v0, v1, v2, v3⟩ := p5_v
  rcases (show j = 0 ∨ j = 1 ∨ j = 2 by omega) with rfl | rfl | rfl
  · rw [v0, v1]; omega
  · rw [v1, v2]; omega
  · rw [v2, v3]; omega
end Rv
