/-! to which letter a mark belongs; sums over the cells -/
def zabs (z : Int) : Int := if 0 ≤ z then z else -z
theorem zabs_le {z m : Int} (h1 : -m ≤ z) (h2 : z ≤ m) : 0 ≤ zabs z ∧ zabs z ≤ m := by unfold zabs; split <;> omega
theorem iZ_zabs {a : Int} (h1 : -2147483648 < a) (h2 : a < 2147483648) : (if 0 ≤ iZ a then iZ a else 0 - iZ a) = iZ (zabs a) := iZ_abs h1 h2
theorem iZ_zabs1 {a : Int} : (if 0 ≤ a then iZ a else iZ (0 - a)) = iZ (zabs a) := by
  unfold zabs
  rw [Int.zero_sub]
  by_cases h : 0 ≤ a
  · rw [if_pos h, if_pos h]
  · rw [if_neg h, if_neg h]
def zsum : Nat → (Nat → Int) → Int
  | 0, _ => 0
  | n + 1, f => zsum n f + f n
theorem zsum_congr {f g : Nat → Int} : ∀ (n : Nat), (∀ i, i < n → f i = g i) → zsum n f = zsum n g
  | 0, _ => rfl
  | n + 1, h => by
    show zsum n f + f n = zsum n g + g n
    rw [zsum_congr n (fun i hi => h i (by omega)), h n (by omega)]
theorem zsum_zero {f : Nat → Int} : ∀ (n : Nat), (∀ i, i < n → f i = 0) → zsum n f = 0
  | 0, _ => rfl
  | n + 1, h => by
    show zsum n f + f n = 0
    rw [zsum_zero n (fun i hi => h i (by omega)), h n (by omega)]
    rfl
theorem zsum_add {f g : Nat → Int} : ∀ (n : Nat), zsum n (fun i => f i + g i) = zsum n f + zsum n g
  | 0 => rfl
  | n + 1 => by
    show zsum n (fun i => f i + g i) + (f n + g n) = (zsum n f + f n) + (zsum n g + g n)
    rw [zsum_add n]
    omega
theorem zsum_swap {f : Nat → Nat → Int} (m : Nat) : ∀ (n : Nat), zsum n (fun i => zsum m (fun j => f i j)) = zsum m (fun j => zsum n (fun i => f i j))
  | 0 => (zsum_zero m (fun _ _ => rfl)).symm
  | n + 1 => by
    show zsum n (fun i => zsum m (fun j => f i j)) + zsum m (fun j => f n j) = zsum m (fun j => zsum n (fun i => f i j) + f n j)
    rw [zsum_swap m n, zsum_add]
/-- a sum whose tail is nothing -/
theorem zsum_cut {f : Nat → Int} {m : Nat} : ∀ (n : Nat), m ≤ n → (∀ i, m ≤ i → i < n → f i = 0) → zsum n f = zsum m f
  | 0, h, _ => by rw [show m = 0 by omega]
  | n + 1, h, hz => by
    by_cases hm : m = n + 1
    · rw [hm]
    · show zsum n f + f n = _
      rw [zsum_cut n (by omega) (fun i h1 h2 => hz i h1 (by omega)), hz n (by omega) (by omega)]
      omega
theorem zsum_mul {f : Nat → Int} (m : Nat) : ∀ (n : Nat), zsum (m * n) f = zsum n (fun j => zsum m (fun i => f (m * j + i)))
  | 0 => rfl
  | n + 1 => by
    have key : ∀ k, zsum (m * n + k) f = zsum (m * n) f + zsum k (fun i => f (m * n + i)) := by
      intro k
      induction k with
      | zero => show zsum (m * n) f = _ + 0; omega
      | succ k ih =>
        show zsum (m * n + k) f + f (m * n + k) = zsum (m * n) f + (zsum k (fun i => f (m * n + i)) + f (m * n + k))
        rw [ih]
        omega
    show zsum (m * (n + 1)) f = zsum n (fun j => zsum m (fun i => f (m * j + i))) + zsum m (fun i => f (m * n + i))
    rw [Nat.mul_succ, key, zsum_mul m n]
theorem zsum_le {f : Nat → Int} {m : Int} : ∀ (n : Nat), (∀ i, i < n → 0 ≤ f i ∧ f i ≤ m) → 0 ≤ zsum n f ∧ zsum n f ≤ m * n
  | 0, _ => by show (0 : Int) ≤ 0 ∧ (0 : Int) ≤ m * 0; omega
  | n + 1, h => by
    have h1 := zsum_le n (fun i hi => h i (by omega))
    have h2 := h n (by omega)
    show 0 ≤ zsum n f + f n ∧ zsum n f + f n ≤ m * ((n : Nat) + 1 : Nat)
    have e : m * (((n : Nat) + 1 : Nat) : Int) = m * n + m := by rw [Int.natCast_add, Int.mul_add]; simp
    rw [e]
    omega
/-- a counting loop: a sum and a counter -/
theorem loop_sum {ρ : Type} {L : Nat → Int32 → Int32 → Option ρ} {K : Int32 → Option ρ} {g : Nat → Int} {n : Nat} (hs : ∀ (k : Nat) (s : Int) (i : Nat), i < n → L (k + 1) (iZ s) (iZ i) = L k (iZ (s + g i)) (iZ (i + 1))) (he : ∀ (k : Nat) (s : Int), L (k + 1) (iZ s) (iZ n) = K (iZ s)) :
    ∀ (k : Nat) (s : Int) (i : Nat), i ≤ n → n - i < k → L k (iZ s) (iZ i) = K (iZ (s + (zsum n g - zsum i g))) := by
  intro k
  induction k with
  | zero => intro s i _ h; omega
  | succ k ih =>
    intro s i hi hk
    by_cases h : i = n
    · subst h
      rw [he, Int.sub_self, Int.add_zero]
    · rw [hs k s i (by omega)]
      have h9 := ih (s + g i) (i + 1) (by omega) (by omega)
      have e : ((i + 1 : Nat) : Int) = (i : Int) + 1 := rfl
      rw [e] at h9
      rw [h9]
      congr 2
      show s + g i + (zsum n g - (zsum i g + g i)) = _
      omega
theorem loop_sum0 {ρ : Type} {L : Nat → Int32 → Int32 → Option ρ} {K : Int32 → Option ρ} {g : Nat → Int} {n : Nat} (hn : n < 9999) (hs : ∀ (k : Nat) (s : Int) (i : Nat), i < n → L (k + 1) (iZ s) (iZ i) = L k (iZ (s + g i)) (iZ (i + 1))) (he : ∀ (k : Nat) (s : Int), L (k + 1) (iZ s) (iZ n) = K (iZ s)) (s : Int) : L FUEL (iZ s) (iZ 0) = K (iZ (s + zsum n g)) := by
  have h := loop_sum hs he FUEL s 0 (by omega) (by unfold FUEL; omega)
  have e : ((0 : Nat) : Int) = 0 := rfl
  rw [e] at h
  rw [h]
  congr 2
  show s + (zsum n g - 0) = _
  omega
def dst (d : Nat → Nat → Int) (p k : Nat) : Int := 3 * zabs (d 6 p - d 1 k) + zabs (d 7 p - d 2 k)
def dec (d : Nat → Nat → Int) (x y i : Int) : Int := if i < cn d x y then d 8 (pl x y i) else -9
def lean (d : Nat → Nat → Int) (x y : Int) : Int := dst d (pl x y 0) 1 - dst d (pl x y 0) 0 + (if 1 < cn d x y then dst d (pl x y 1) 0 - dst d (pl x y 1) 1 else 0)
def own (d : Nat → Nat → Int) (x y : Int) : Int := if cn d x y ≤ 0 then -9 else if dec d x y 0 = -9 then (if dec d x y 1 = -9 then (if d 0 2 < zabs (lean d x y) then (if lean d x y ≤ 0 then 1 else 0) else -9) else 1 - dec d x y 1) else dec d x y 0
theorem dst_le {d : Nat → Nat → Int} {p k : Nat} (hm : mkOk d p) (hk : lwOk d k) : 0 ≤ dst d p k ∧ dst d p k ≤ 17 := by
  obtain ⟨-, -, m1, m2, m3, m4, -⟩ := hm
  obtain ⟨k1, k2, k3, k4, -, -⟩ := hk
  have a1 := zabs_le (z := d 6 p - d 1 k) (m := 3) (by omega) (by omega)
  have a2 := zabs_le (z := d 7 p - d 2 k) (m := 8) (by omega) (by omega)
  unfold dst
  omega
section Ow
variable {T : zT} {hz h : zH} {b : Nat} {d : Nat → Nat → Int}
theorem OkD.lw (hO : OkD d) {k : Nat} (hk : k < 2) : lwOk d k := by
  rcases (show k = 0 ∨ k = 1 by omega) with rfl | rfl
  · exact hO.2.1
  · exact hO.2.2.1
theorem OkD.mk (hO : OkD d) {x y i : Int} (g : inG d x y) (i1 : 0 ≤ i) (i2 : i < cn d x y) : mkOk d (pl x y i) := (hO.2.2.2 x y g).2.2.1 i i1 i2
theorem OkD.cn (hO : OkD d) {x y : Int} (g : inG d x y) : 0 ≤ cn d x y ∧ cn d x y ≤ 2 := ⟨(hO.2.2.2 x y g).1, (hO.2.2.2 x y g).2.1⟩
theorem OkD.g9 (hO : OkD d) {x y : Int} (g : inG d x y) : 0 ≤ x ∧ x < 9 ∧ 0 ≤ y ∧ y < 9 := by
  obtain ⟨⟨o1, o2, o3, o4, -⟩, -⟩ := hO
  obtain ⟨g1, g2, g3, g4⟩ := g
  omega
theorem dist_eq (hS : ShAt T h b d) (hO : OkD d) {p : Int} (p1 : 0 ≤ p) (p2 : p < 162) (hm : mkOk d p.toNat) {k : Int} (k1 : 0 ≤ k) (k2 : k < 2) : FX3_distance T b (iZ p) (iZ k) h = some (iZ (dst d p.toNat k.toNat)) := by
  have hk := hO.lw (k := k.toNat) (by omega)
  obtain ⟨-, -, m1, m2, m3, m4, -⟩ := hm
  obtain ⟨l1, l2, l3, l4, -, -⟩ := hk
  unfold FX3_distance
  simp (disch := omega) only [sh_zo hS, zsb, sh_r1 hS, sh_r2 hS, sh_r6 hS, sh_r7 hS, at_in (sh_n1 hS), at_in (sh_n2 hS), at_in (sh_n6 hS), at_in (sh_n7 hS), iZ_sub, iZ_zabs, q3, iZ_mul, iZ_add]
  rfl
theorem decision_eq (hS : ShAt T h b d) (hO : OkD d) {x y i : Int} (g : inG d x y) (i1 : 0 ≤ i) (i2 : i < 2) : FX3_decisionOf T b (iZ x) (iZ y) (iZ i) h = some (iZ (dec d x y i)) := by
  have g9 := hO.g9 g
  unfold dec
  by_cases hi : i < cn d x y
  · rw [if_pos hi]
    exact decision_t hS hO g i1 hi
  · rw [if_neg hi]
    exact decision_f hS hO (by omega) (by omega) (by omega) (by omega) (by omega) (by omega) (fun z => hi z.2.2)
theorem dec_in (hO : OkD d) {x y i : Int} (g : inG d x y) (i1 : 0 ≤ i) : dec d x y i = -9 ∨ dec d x y i = 0 ∨ dec d x y i = 1 := by
  unfold dec
  by_cases hi : i < cn d x y
  · rw [if_pos hi]
    exact (hO.mk g i1 hi).2.2.2.2.2.2
  · rw [if_neg hi]
    exact Or.inl rfl
theorem pl_in {x y i : Int} (g : 0 ≤ x ∧ x < 9 ∧ 0 ≤ y ∧ y < 9) (i1 : 0 ≤ i) (i2 : i < 2) : 0 ≤ 2 * (9 * x + y) + i ∧ 2 * (9 * x + y) + i < 162 := by omega
theorem lean_le (hO : OkD d) {x y : Int} (g : inG d x y) (hc : 0 < cn d x y) : -34 ≤ lean d x y ∧ lean d x y ≤ 34 := by
  have a1 := dst_le (hO.mk g (i := 0) (by omega) hc) hO.2.1
  have a2 := dst_le (hO.mk g (i := 0) (by omega) hc) hO.2.2.1
  unfold lean
  by_cases h1 : 1 < cn d x y
  · have a3 := dst_le (hO.mk g (i := 1) (by omega) h1) hO.2.1
    have a4 := dst_le (hO.mk g (i := 1) (by omega) h1) hO.2.2.1
    rw [if_pos h1]
    omega
  · rw [if_neg h1]
    omega
theorem lean_eq (hS : ShAt T h b d) (hO : OkD d) {x y : Int} (g : inG d x y) (hc : 0 < cn d x y) : FX3_leaningOf T b (iZ x) (iZ y) h = some (iZ (lean d x y)) := by
  have g9 := hO.g9 g
  have m0 := hO.mk g (i := 0) (by omega) hc
  have hp0 := pl_in g9 (i := 0) (by omega) (by omega)
  have e00 := dist_eq hS hO hp0.1 hp0.2 m0 (k := 0) (by omega) (by omega)
  have e01 := dist_eq hS hO hp0.1 hp0.2 m0 (k := 1) (by omega) (by omega)
  unfold FX3_leaningOf lean
  by_cases h1 : 1 < cn d x y
  · have m1 := hO.mk g (i := 1) (by omega) h1
    have hp1 := pl_in g9 (i := 1) (by omega) (by omega)
    have e10 := dist_eq hS hO hp1.1 hp1.2 m1 (k := 0) (by omega) (by omega)
    have e11 := dist_eq hS hO hp1.1 hp1.2 m1 (k := 1) (by omega) (by omega)
    have hm := hasMark_t hS hO g (i := 1) (by omega) h1
    simp (disch := omega) only [sh_zo hS, zsb, zJ, q0, q1, placeOf_eq, e00, e01, e10, e11, hm, iZ_eq, if_neg, iZ_sub, iZ_add]
    rw [if_pos h1]
    rfl
  · have hm := hasMark_f hS hO (i := 1) (x := x) (y := y) (by omega) (by omega) (by omega) (by omega) (by omega) (by omega) (fun z => h1 z.2.2)
    simp (disch := omega) only [sh_zo hS, zsb, zJ, q0, q1, placeOf_eq, e00, e01, hm, iZ_eq, if_pos, if_true, iZ_sub, iZ_add]
    have ep : pl x y 0 = (2 * (9 * x + y)).toNat := by unfold pl; rw [Int.add_zero]
    simp only [Int.add_zero] at e00 e01
    rw [if_neg h1, ep]
    simp only [Int.add_zero]
    rfl
theorem own_eq (hS : ShAt T h b d) (hO : OkD d) {x y : Int} (g : inG d x y) : FX3_ownerOfFirst T b (iZ x) (iZ y) h = some (iZ (own d x y)) := by
  have g9 := hO.g9 g
  have hcn := hO.cn g
  have d0 := decision_eq hS hO g (i := 0) (by omega) (by omega)
  have d1 := decision_eq hS hO g (i := 1) (by omega) (by omega)
  have i0 := dec_in hO g (i := 0) (by omega)
  have i1 := dec_in hO g (i := 1) (by omega)
  unfold FX3_ownerOfFirst own
  by_cases hc : 0 < cn d x y
  case neg =>
    have hm := hasMark_f hS hO (i := 0) (x := x) (y := y) (by omega) (by omega) (by omega) (by omega) (by omega) (by omega) (fun z => hc z.2.2)
    simp (disch := omega) only [sh_zo hS, zsb, q0, hm, if_pos, if_true]
    rfl
  have hm := hasMark_t hS hO g (i := 0) (by omega) hc
  have hl := lean_le hO g hc
  have ha := zabs_le (m := 34) hl.1 hl.2
  obtain ⟨⟨o1, o2, o3, o4, o5, o6, -⟩, -⟩ := id hO
  simp (disch := omega) only [sh_zo hS, zsb, zJ, hm, d0, d1, lean_eq hS hO g hc, sh_g2 hS, iZ_zabs1, q0, q1, qm9, iZ_sub, iZ_eq, iZ_lt, iZ_le, if_neg (show ¬ cn d x y ≤ 0 by omega), if_neg (show ¬ (1 : Int) = 0 by omega)]
  by_cases e0 : dec d x y 0 = -9
  · rw [if_pos e0, if_pos e0]
    by_cases e1 : dec d x y 1 = -9
    · rw [if_pos e1, if_pos e1]
      by_cases e2 : d 0 2 < zabs (lean d x y)
      · rw [if_pos e2, if_pos e2]
        by_cases e3 : lean d x y ≤ 0
        · rw [if_pos e3, if_pos e3]
        · rw [if_neg e3, if_neg e3]
      · rw [if_neg e2, if_neg e2]
    · rw [if_neg e1, if_neg e1]
  · rw [if_neg e0, if_neg e0]
theorem own_in (hO : OkD d) {x y : Int} (g : inG d x y) : own d x y = -9 ∨ own d x y = 0 ∨ own d x y = 1 := by
  have i0 := dec_in hO g (i := 0) (by omega)
  have i1 := dec_in hO g (i := 1) (by omega)
  unfold own
  split
  · omega
  split
  · split
    · split
      · split <;> omega
      · omega
    · omega
  · omega
theorem own_of (hS : ShAt T h b d) (hO : OkD d) {x y i : Int} (g : inG d x y) (i1 : 0 ≤ i) (i2 : i < 2) : FX3_ownerOf T b (iZ x) (iZ y) (iZ i) h = some (iZ (if i = 0 ∨ own d x y = -9 then own d x y else 1 - own d x y)) := by
  have hi := own_in hO g
  unfold FX3_ownerOf
  simp (disch := omega) only [sh_zo hS, zsb, zJ, own_eq hS hO g, q0, q1, qm9, iZ_eq, iZ_sub]
  by_cases c1 : i = 0
  · rw [if_pos c1, if_pos (Or.inl c1)]
  rw [if_neg c1]
  by_cases c2 : own d x y = -9
  · rw [if_pos c2, if_pos (Or.inr c2)]
  · rw [if_neg c2, if_neg (fun z => z.elim c1 c2)]
/-- the class's sums over its cells -/
def gsum (d : Nat → Nat → Int) (g : Int → Int → Int) : Int := zsum (d 0 0).toNat (fun x => zsum (d 0 1).toNat (fun y => g x y))
theorem OkD.wh (hO : OkD d) : ((d 0 0).toNat : Int) = d 0 0 ∧ ((d 0 1).toNat : Int) = d 0 1 ∧ (d 0 0).toNat ≤ 9 ∧ (d 0 1).toNat ≤ 9 := by
  obtain ⟨⟨o1, o2, o3, o4, -⟩, -⟩ := hO
  omega
theorem countMarks_eq (hS : ShAt T h b d) (hO : OkD d) : FX3_countMarks T b h = some (iZ (gsum d (cn d))) := by
  obtain ⟨w1, w2, w3, w4⟩ := hO.wh
  unfold FX3_countMarks gsum
  rw [sh_zo hS, zsb, q0]
  refine (loop_sum0 (L := LX3_countMarks_4 T h b (fun (x15 : Int32) => some x15)) (K := fun v => some v) (g := fun x => zsum (d 0 1).toNat (fun y => cn d x y)) (n := (d 0 0).toNat) (by omega) (fun k s i hi => ?_) (fun k s => ?_) 0).trans (by rw [Int.zero_add])
  · rw [LX3_countMarks_4.eq_2]
    simp (disch := omega) only [sh_g0 hS, zsb, iZ_le, if_neg]
    refine (loop_sum0 (L := LX3_countMarks_14 T h b (iZ i) (fun (x14 : Int32) => LX3_countMarks_4 T h b (fun (x15 : Int32) => some x15) k x14 (iZ i + 1))) (K := fun v => LX3_countMarks_4 T h b (fun (x15 : Int32) => some x15) k v (iZ i + 1)) (g := fun y => cn d i y) (n := (d 0 1).toNat) (by omega) (fun k2 s2 j hj => ?_) (fun k2 s2 => ?_) s).trans (by rw [q1, iZ_add])
    · rw [LX3_countMarks_14.eq_2]
      have g : inG d i j := ⟨by omega, by omega, by omega, by omega⟩
      simp (disch := omega) only [sh_g1 hS, zsb, iZ_le, if_neg, marksIn_t hS hO g, iZ_add, q1]
    · rw [LX3_countMarks_14.eq_2]
      simp (disch := omega) only [sh_g1 hS, zsb, iZ_le, if_pos]
  · rw [LX3_countMarks_4.eq_2]
    simp (disch := omega) only [sh_g0 hS, zsb, iZ_le, if_pos]
def dbt (d : Nat → Nat → Int) (x y : Int) : Int := if own d x y = -9 then cn d x y else 0
theorem countDoubtful_eq (hS : ShAt T h b d) (hO : OkD d) : FX3_countDoubtful T b h = some (iZ (gsum d (dbt d))) := by
  obtain ⟨w1, w2, w3, w4⟩ := hO.wh
  unfold FX3_countDoubtful gsum
  rw [sh_zo hS, zsb, q0]
  refine (loop_sum0 (L := LX3_countDoubtful_4 T h b (fun (x20 : Int32) => some x20)) (K := fun v => some v) (g := fun x => zsum (d 0 1).toNat (fun y => dbt d x y)) (n := (d 0 0).toNat) (by omega) (fun k s i hi => ?_) (fun k s => ?_) 0).trans (by rw [Int.zero_add])
  · rw [LX3_countDoubtful_4.eq_2]
    simp (disch := omega) only [sh_g0 hS, zsb, iZ_le, if_neg]
    refine (loop_sum0 (L := LX3_countDoubtful_14 T h b (iZ i) (fun (x19 : Int32) => LX3_countDoubtful_4 T h b (fun (x20 : Int32) => some x20) k x19 (iZ i + 1))) (K := fun v => LX3_countDoubtful_4 T h b (fun (x20 : Int32) => some x20) k v (iZ i + 1)) (g := fun y => dbt d i y) (n := (d 0 1).toNat) (by omega) (fun k2 s2 j hj => ?_) (fun k2 s2 => ?_) s).trans (by rw [q1, iZ_add])
    · rw [LX3_countDoubtful_14.eq_2]
      have g : inG d i j := ⟨by omega, by omega, by omega, by omega⟩
      have ho := own_in hO g
      simp (disch := omega) only [sh_g1 hS, zsb, zJ, iZ_le, if_neg, own_eq hS hO g, marksIn_t hS hO g, iZ_add, q1, q0, qm9, iZ_eq]
      unfold dbt
      by_cases c : own d i j = -9
      · rw [if_pos c, if_pos c]
      · rw [if_neg c, if_neg c]
    · rw [LX3_countDoubtful_14.eq_2]
      simp (disch := omega) only [sh_g1 hS, zsb, iZ_le, if_pos]
  · rw [LX3_countDoubtful_4.eq_2]
    simp (disch := omega) only [sh_g0 hS, zsb, iZ_le, if_pos]
end Ow
