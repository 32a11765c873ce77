/-! numbers of 64 bits; a number is split into signs -/
theorem lZ_add (a b : Int) : lZ a + lZ b = lZ (a + b) := (Int64.ofInt_add a b).symm
theorem lZ_sub (a b : Int) : lZ a - lZ b = lZ (a - b) := (Int64.ofInt_sub a b).symm
theorem lZ_mul (a b : Int) : lZ a * lZ b = lZ (a * b) := (Int64.ofInt_mul a b).symm
theorem lZ_of (x : Int64) : lZ x.toInt = x := Int64.ofInt_toInt x
theorem lZ_div {a b : Int} (h1 : 0 ≤ a) (h2 : a < 9223372036854775808) (h3 : 0 < b) (h4 : b < 9223372036854775808) : lZ a / lZ b = lZ (a / b) := by
  have h := Int64.ofInt_tdiv (a := a) (b := b) (by show (-9223372036854775808 : Int) ≤ a; omega) (by show a ≤ (9223372036854775807 : Int); omega) (by show (-9223372036854775808 : Int) ≤ b; omega) (by show b ≤ (9223372036854775807 : Int); omega)
  show Int64.ofInt a / Int64.ofInt b = _
  rw [← h, Int.tdiv_eq_ediv_of_nonneg h1]
  rfl
theorem lZ_i32 (a : Int) : (lZ a).toInt32 = iZ a := Int64.toInt32_ofInt
theorem zdivL_lZ {a b : Int} (h1 : 0 ≤ a) (h2 : a < 9223372036854775808) (h3 : 0 < b) (h4 : b < 9223372036854775808) : zdivL (lZ a) (lZ b) = some (lZ (a / b)) := by
  unfold zdivL
  rw [if_neg, lZ_div h1 h2 h3 h4]
  rw [show (0 : Int64) = lZ 0 from rfl, lZ_eq (by omega) h4 (by omega) (by omega)]
  omega
theorem zremL_lZ {a b : Int} (h1 : 0 ≤ a) (h2 : a < 9223372036854775808) (h3 : 0 < b) (h4 : b < 9223372036854775808) : zremL (lZ a) (lZ b) = some (lZ (a % b)) := by
  unfold zremL
  rw [if_neg, lZ_div h1 h2 h3 h4, lZ_mul, lZ_sub, show a - a / b * b = a % b from by rw [Int.emod_def, Int.mul_comm]]
  rw [show (0 : Int64) = lZ 0 from rfl, lZ_eq (by omega) h4 (by omega) (by omega)]
  omega
theorem l100 : (100 : Int64) = lZ 100 := rfl
def p100 : Nat → Int
  | 0 => 1
  | n + 1 => p100 n * 100
theorem p100_in {n : Nat} (h : n ≤ 8) : 1 ≤ p100 n ∧ p100 n ≤ 10000000000000000 := by
  rcases (show n = 0 ∨ n = 1 ∨ n = 2 ∨ n = 3 ∨ n = 4 ∨ n = 5 ∨ n = 6 ∨ n = 7 ∨ n = 8 by omega) with rfl | rfl | rfl | rfl | rfl | rfl | rfl | rfl | rfl <;> exact ⟨by decide, by decide⟩
theorem p100_pos (n : Nat) : 0 < p100 n := by
  induction n with
  | zero => decide
  | succ n ih => show 0 < p100 n * 100; omega
theorem div_p (z : Int) (n : Nat) : z / p100 (n + 1) = z / p100 n / 100 := by
  show z / (p100 n * 100) = _
  rw [Int.ediv_ediv_of_nonneg (Int.le_of_lt (p100_pos n))]
def rI (x : Int64) : Nat → Int64
  | 0 => x
  | i + 1 => rI x i / 100
def pI (x : Int64) (i : Nat) : Int := ((rI x i - rI x i / 100 * 100).toInt32).toInt
theorem rI_eq {z : Int} (z1 : 0 ≤ z) (z2 : z < 9223372036854775808) : ∀ i : Nat, rI (lZ z) i = lZ (z / p100 i)
  | 0 => by
    show lZ z = lZ (z / 1)
    rw [Int.ediv_one]
  | i + 1 => by
    have h := p100_pos i
    have h1 : 0 ≤ z / p100 i := Int.ediv_nonneg z1 (by omega)
    have h2 : z / p100 i ≤ z := Int.ediv_le_self _ z1
    show rI (lZ z) i / 100 = _
    rw [rI_eq z1 z2 i, l100, lZ_div h1 (by omega) (by omega) (by omega), div_p]
theorem pI_eq {z : Int} (z1 : 0 ≤ z) (z2 : z < 9223372036854775808) (i : Nat) : pI (lZ z) i = z / p100 i % 100 ∧ 0 ≤ pI (lZ z) i ∧ pI (lZ z) i < 100 := by
  have h := p100_pos i
  have h1 : 0 ≤ z / p100 i := Int.ediv_nonneg z1 (by omega)
  have h2 : z / p100 i ≤ z := Int.ediv_le_self _ z1
  have e : pI (lZ z) i = z / p100 i % 100 := by
    unfold pI
    rw [rI_eq z1 z2, l100, lZ_div h1 (by omega) (by omega) (by omega), lZ_mul, lZ_sub, lZ_i32, show z / p100 i - z / p100 i / 100 * 100 = z / p100 i % 100 from by omega, iZ_toInt (by omega) (by omega)]
  rw [e]
  omega
section Sp
variable {T : zT} {hz h : zH} {b o : Nat} {n : Int} {tx : Nat → Int} {d : Nat → Nat → Int} {cnt nxt : Int} {dd : Nat → Nat → Nat → Int} {fl : Nat → Int} {ds : Nat → Nat → Nat → Int} {fs v tx7 r D kp kb : Nat → Int} {x : Int64}
theorem split6 (S : St T hz h b n tx d cnt nxt dd fl ds fs) {m : Nat} (m1 : 1 ≤ m) (m2 : m ≤ 8) (y : Int64) : ∃ h' wn, FX6_splitSigns T b (iZ m) y h = some (iZ (ind (0 ≤ y.toInt ∧ rI y m = 0 ∧ ∀ t : Nat, t < m → ¬ 26 < pI y t)), h') ∧ Num T h' (b + 350) 8 wn ∧ (∀ t : Nat, t < m → wn (m - 1 - t) = pI y t) ∧ St T hz h' b n tx d cnt nxt dd fl ds fs := by
  have A : ∃ f, Num T h (b + 350) 8 f := S.2.2.1 5 (by omega)
  obtain ⟨w0, A0⟩ := A
  refine Exists.elim (loop_st (L := fun k i (s : Int64 × Int32 × zH) => LX6_splitSigns_11 T b y (fun (x17 : Int64) (x18 : Int32) (h19 : zH) => zJ (fun (x20 : Int32) => if x20 = iZ 0 ∨ x20 = iZ 1 then some (x20, h19) else none) (fun J21 => zJ (fun (u9 : Unit) => J21 (iZ 0)) (fun J22 => if (lg_cmp y (0 : Int64)) < iZ 0 then (J22 ()) else (if (lg_cmp x17 (0 : Int64)) = iZ 0 then (if x18 = iZ 0 then (J22 ()) else (J21 (iZ 1))) else (J22 ()))))) k s.1 s.2.1 (iZ ((m : Int) - 1) - i) s.2.2) (K := fun s => zJ (fun (x20 : Int32) => if x20 = iZ 0 ∨ x20 = iZ 1 then some (x20, s.2.2) else none) (fun J21 => zJ (fun (u9 : Unit) => J21 (iZ 0)) (fun J22 => if (lg_cmp y (0 : Int64)) < iZ 0 then (J22 ()) else (if (lg_cmp s.1 (0 : Int64)) = iZ 0 then (if s.2.1 = iZ 0 then (J22 ()) else (J21 (iZ 1))) else (J22 ()))))) (I := fun j s => s.1 = rI y j ∧ s.2.1 = iZ (ind (∀ t : Nat, t < j → ¬ 26 < pI y t)) ∧ ∃ wn, Num T s.2.2 (b + 350) 8 wn ∧ (∀ t : Nat, t < j → wn (m - 1 - t) = pI y t) ∧ St T hz s.2.2 b n tx d cnt nxt dd fl ds fs) (n := m) (by omega) (fun k i s hi hI => ?_) (fun k s hI => ?_) (s := (y, iZ 1, h)) ⟨rfl, by rw [ind_t (fun t ht => by omega)], w0, A0, fun t ht => by omega, S⟩) ?_
  · obtain ⟨e1, e2, wn, A1, e3, S1⟩ := hI
    obtain ⟨h2, g2, A2, f2⟩ := put_in (i := (m : Int) - 1 - i) (v := pI y i) A1 (by omega) (by omega) (by omega)
    have S2 := S1.sc (i := 5) (by omega) ⟨_, A2⟩ (fun q hq => f2 q (by rw [show slo 5 = 350 from rfl, show shi 5 = 351 from rfl] at hq; omega))
    have ep : (rI y i - rI y i / 100 * 100).toInt32 = iZ (pI y i) := (iZ_of _).symm
    have elo := i_lo (rI y i - rI y i / 100 * 100).toInt32
    have ehi := i_hi (rI y i - rI y i / 100 * 100).toInt32
    have elo' : -2147483648 ≤ pI y i := elo
    have ehi' : pI y i < 2147483648 := ehi
    have ez : zremL (rI y i) 100 = some (rI y i - rI y i / 100 * 100) := if_neg (by decide)
    have ed : zdivL (rI y i) 100 = some (rI y i / 100) := if_neg (by decide)
    refine ⟨(rI y (i + 1), iZ (ind (∀ t : Nat, t < i + 1 → ¬ 26 < pI y t)), h2), ?_, rfl, rfl, _, A2, fun t ht => ?_, S2⟩
    · show LX6_splitSigns_11 T b y _ (k + 1) s.1 s.2.1 (iZ ((m : Int) - 1) - iZ i) s.2.2 = _
      rw [e1, e2, LX6_splitSigns_11.eq_2, iZ_sub, q0, if_neg (by rw [iZ_lt (by omega) (by omega) (by omega) (by omega)]; omega)]
      simp only [zJn]
      rw [ez, zsn, cs_r10 S1.cs0, zsn, ep, g2, zsn, ed, zsn, q26, qm1, iZ_add, q1]
      show (if _ then LX6_splitSigns_11 T b y _ k (rI y i / 100) (iZ 0) (iZ ((m : Int) - 1 - i + -1)) h2 else _) = LX6_splitSigns_11 T b y _ k (rI y i / 100) (iZ (ind (∀ t : Nat, t < i + 1 → ¬ 26 < pI y t))) (iZ ((m : Int) - 1) - iZ ((i : Int) + 1)) h2
      rw [iZ_sub, show (m : Int) - 1 - ((i : Int) + 1) = (m : Int) - 1 - i + -1 from by omega]
      by_cases c : ∀ t : Nat, t < i → ¬ 26 < pI y t
      · rw [ind_t c, if_neg (by decide)]
        by_cases c2 : 26 < pI y i
        · rw [if_pos (by rw [iZ_lt (by omega) (by omega) (by omega) (by omega)]; exact c2), ind_f (fun z => z i (by omega) c2)]
        · rw [if_neg (by rw [iZ_lt (by omega) (by omega) (by omega) (by omega)]; exact c2), zsn, ind_t (fun t ht => by
            by_cases c3 : t = i
            · rw [c3]; exact c2
            · exact c t (by omega))]
      · rw [ind_f c, if_pos rfl, ind_f (fun z => c (fun t ht => z t (by omega)))]
    · have ec : ((m : Int) - 1 - i).toNat = m - 1 - i := by omega
      rw [ec]
      by_cases c : t = i
      · rw [c, upZ_self]
      · rw [upZ_ne _ _ (by omega)]; exact e3 t (by omega)
  · show LX6_splitSigns_11 T b y _ (k + 1) s.1 s.2.1 (iZ ((m : Int) - 1) - iZ m) s.2.2 = _
    rw [LX6_splitSigns_11.eq_2, iZ_sub, q0, if_pos (by rw [iZ_lt (by omega) (by omega) (by omega) (by omega)]; omega)]
  · rintro s ⟨e0, e1, e2, wn, A1, e3, S1⟩
    refine ⟨s.2.2, wn, ?_, A1, e3, S1⟩
    unfold FX6_splitSigns
    rw [cs_zo S.cs0, zsn, q0, q1, iZ_sub]
    rw [iZ_sub, Int.sub_zero] at e0
    refine Eq.trans (show _ = _ from e0) ?_
    simp only [zJn]
    rw [e1, e2]
    have hy0 : (lg_cmp y 0 < iZ 0) ↔ ¬ 0 ≤ y.toInt := by
      rw [← q0, lg_lt, Int64.lt_iff_toInt_lt, show (0 : Int64).toInt = 0 from rfl]
      omega
    by_cases c : 0 ≤ y.toInt
    · rw [if_neg (fun z => hy0.mp z c)]
      by_cases c2 : rI y m = 0
      · rw [if_pos (show lg_cmp (rI y m) 0 = iZ 0 from lg_eq0.mpr c2)]
        by_cases c3 : ∀ t : Nat, t < m → ¬ 26 < pI y t
        · rw [ind_t c3, if_neg (by decide), if_pos (Or.inr trivial), ind_t ⟨c, c2, c3⟩]
        · rw [ind_f c3, if_pos rfl, if_pos (Or.inl trivial), ind_f (fun z => c3 z.2.2)]
      · rw [if_neg (show ¬ lg_cmp (rI y m) 0 = iZ 0 from fun z => c2 (lg_eq0.mp z)), if_pos (Or.inl trivial), ind_f (fun z => c2 z.2.1)]
    · rw [if_pos (hy0.mpr c), if_pos (Or.inl trivial), ind_f (fun z => c z.1)]
end Sp
