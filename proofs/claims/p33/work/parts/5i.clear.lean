/-! call: bestDecision; one decision clears the doubts of its cell -/
theorem zsum_one {f g : Nat → Int} {p : Nat} : ∀ n : Nat, p < n → (∀ j, j < n → j ≠ p → g j = f j) → zsum n g = zsum n f + (g p - f p)
  | 0, h, _ => by omega
  | n + 1, h, e => by
    show zsum n g + g n = zsum n f + f n + (g p - f p)
    by_cases c : p = n
    · subst c
      rw [zsum_congr p (fun j hj => e j (by omega) (by omega))]
      omega
    · rw [zsum_one n (by omega) (fun j hj => e j (by omega)), e n (by omega) (fun z => c z.symm)]
      omega
section Dd
variable {d : Nat → Nat → Int} {x y i : Int}
theorem own_ext {d' : Nat → Nat → Int} {X Y : Int} (hr : ∀ r, r < 8 → d' r = d r) (h0 : d' 8 (pl X Y 0) = d 8 (pl X Y 0)) (h1 : d' 8 (pl X Y 1) = d 8 (pl X Y 1)) : own d' X Y = own d X Y ∧ cn d' X Y = cn d X Y := by
  have hc : cn d' X Y = cn d X Y := cn_row (hr 4 (by omega)) X Y
  refine ⟨?_, hc⟩
  unfold own lean dec dst
  rw [hc, h0, h1, hr 0 (by omega), hr 1 (by omega), hr 2 (by omega), hr 6 (by omega), hr 7 (by omega)]
theorem dbt_dec (hO : OkD d) (g : inG d x y) (i1 : 0 ≤ i) (i2 : i < cn d x y) {L : Nat} (hL : L < 2) (hd : dec d x y i = -9) (hn : dec d x y (1 - i) ≠ L) : OkD (ddec d x y i L) ∧ gsum (ddec d x y i L) (dbt (ddec d x y i L)) = gsum d (dbt d) - dbt d x y := by
  have hcn := hO.cn g
  have hO' : OkD (ddec d x y i L) := OkD_dec hO g i1 i2 (Or.inr ⟨by omega, hn⟩)
  refine ⟨hO', ?_⟩
  have g9 := hO.g9 g
  obtain ⟨w1, w2, w3, w4⟩ := hO.wh
  have gg := g
  obtain ⟨a1, a2, a3, a4⟩ := g
  have hlo : ∀ r, r < 8 → ddec d x y i L r = d r := fun r hr => ddec_lo hr
  have hin : inG (ddec d x y i L) x y := ⟨a1, by rw [hlo 0 (by omega)]; exact a2, a3, by rw [hlo 0 (by omega)]; exact a4⟩
  have hc : cn (ddec d x y i L) x y = cn d x y := cn_row (hlo 4 (by omega)) x y
  have h0 : dbt (ddec d x y i L) x y = 0 := by
    unfold dbt
    rw [if_neg]
    intro hw
    have q := own9 hO' hin i1 (by omega) (by omega) hw
    unfold dec at q
    rw [hc, if_pos i2, ddec_8, upZ_self] at q
    omega
  have hne : ∀ X Y : Int, inG d X Y → ¬ (X = x ∧ Y = y) → dbt (ddec d x y i L) X Y = dbt d X Y := fun X Y gX hX => by
    have gX9 := hO.g9 gX
    obtain ⟨e1, e2⟩ := own_ext (d' := ddec d x y i L) (X := X) (Y := Y) hlo (by rw [ddec_8, upZ_ne _ _ (pl_ne g9 gX9 i1 (by omega) (by omega) (by omega) (fun z => hX ⟨z.1, z.2.1⟩))]) (by rw [ddec_8, upZ_ne _ _ (pl_ne g9 gX9 i1 (by omega) (by omega) (by omega) (fun z => hX ⟨z.1, z.2.1⟩))])
    unfold dbt
    rw [e1, e2]
  unfold gsum
  rw [hlo 0 (by omega)]
  have ex : ((x.toNat : Nat) : Int) = x := by omega
  have ey : ((y.toNat : Nat) : Int) = y := by omega
  have in1 := zsum_one (f := fun Y : Nat => dbt d x Y) (g := fun Y : Nat => dbt (ddec d x y i L) x Y) (p := y.toNat) (d 0 1).toNat (by omega) (fun j hj hjn => hne x j ⟨a1, a2, by omega, by omega⟩ (fun z => by omega))
  have out1 := zsum_one (f := fun X : Nat => zsum (d 0 1).toNat (fun Y => dbt d X Y)) (g := fun X : Nat => zsum (d 0 1).toNat (fun Y => dbt (ddec d x y i L) X Y)) (p := x.toNat) (d 0 0).toNat (by omega) (fun k hk hkn => zsum_congr _ (fun j hj => hne k j ⟨by omega, by omega, by omega, by omega⟩ (fun z => by omega)))
  simp only [ex] at out1
  simp only [ey] at in1
  rw [h0] at in1
  rw [out1, in1]
  omega
end Dd
def can (d : Nat → Nat → Int) (L : Nat) (x y i : Int) : Prop := dec d x y i = -9 ∧ dec d x y (1 - i) ≠ L
def ftd (d : Nat → Nat → Int) (L : Nat) (x y : Int) : Int := if 0 < cn d x y ∧ (dec d x y 0 = -9 ∧ dec d x y 1 ≠ L) then 0 else if 1 < cn d x y ∧ (dec d x y 1 = -9 ∧ dec d x y 0 ≠ L) then 1 else -9
def u6 (c code : Int) (s : Int × Int) : Int × Int := if c ≤ s.2 then s else (code, c)
def u7 (c code : Int) (s : Int × Int) : Int × Int := if s.1 = -9 then (code, c) else if s.2 ≤ c then s else (code, c)
def bs6 (d : Nat → Nat → Int) (L : Nat) (x y : Int) (s : Int × Int) : Int × Int := if ftd d L x y = -9 then s else u6 (dbt d x y) (100 * x + 10 * y + ftd d L x y) s
def ms7 (d : Nat → Nat → Int) (L : Nat) (x y i : Int) (s : Int × Int) : Int × Int := if dec d x y i = -9 ∧ dec d x y (1 - i) ≠ L then u7 (gsum d (dbt d) - dbt d x y) (100 * x + 10 * y + i) s else s
def mi7 (d : Nat → Nat → Int) (L : Nat) (x y : Int) : Nat → Int × Int → Int × Int
  | 0, s => s
  | i + 1, s => ms7 d L x y i (mi7 d L x y i s)
def cf (st : Int → Int → Int × Int → Int × Int) (d : Nat → Nat → Int) : Nat → Int × Int → Int × Int
  | 0, s => s
  | c + 1, s => if ((c / 9 : Nat) : Int) < d 0 0 ∧ ((c % 9 : Nat) : Int) < d 0 1 then st (c / 9 : Nat) (c % 9 : Nat) (cf st d c s) else cf st d c s
def rb (D : Int) (s t : Int × Int) : Prop := s.1 = t.1 ∧ (s.1 = -9 → s.2 = -1) ∧ (s.1 ≠ -9 → t.2 = D - s.2)
theorem rb_u {D c code : Int} {s t : Int × Int} (h : rb D s t) (c1 : 0 ≤ c) (k1 : 0 ≤ code) : rb D (u6 c code s) (u7 (D - c) code t) := by
  obtain ⟨a1, a2, a3⟩ := h
  unfold u6 u7
  by_cases c0 : s.1 = -9
  · have e := a2 c0
    rw [if_neg (by omega), if_pos (by omega)]
    exact ⟨rfl, fun z => absurd (show code = -9 from z) (by omega), fun _ => rfl⟩
  · have e := a3 c0
    rw [if_neg (show ¬ t.1 = -9 from by omega)]
    by_cases g : c ≤ s.2
    · rw [if_pos g, if_pos (by omega)]; exact ⟨a1, a2, a3⟩
    · rw [if_neg g, if_neg (by omega)]
      exact ⟨rfl, fun z => absurd (show code = -9 from z) (by omega), fun _ => rfl⟩
theorem u7_u7 {c k1 k2 : Int} {t : Int × Int} (h1 : 0 ≤ k1) : u7 c k2 (u7 c k1 t) = u7 c k1 t := by
  unfold u7
  by_cases c0 : t.1 = -9
  · rw [if_pos c0, if_neg (show ¬ k1 = -9 from by omega), if_pos (show c ≤ c from by omega)]
  · rw [if_neg c0]
    by_cases g : t.2 ≤ c
    · rw [if_pos g, if_neg c0, if_pos g]
    · rw [if_neg g, if_neg (show ¬ k1 = -9 from by omega), if_pos (show c ≤ c from by omega)]
theorem rb_cell {d : Nat → Nat → Int} (hO : OkD d) {L : Nat} (hL : L < 2) {x y : Int} (g : inG d x y) {s t : Int × Int} (h : rb (gsum d (dbt d)) s t) : rb (gsum d (dbt d)) (bs6 d L x y s) (mi7 d L x y (cn d x y).toNat t) := by
  have hcn := hO.cn g
  have g9 := hO.g9 g
  have hb : 0 ≤ dbt d x y := by unfold dbt; split <;> omega
  have u0 := rb_u (code := 100 * x + 10 * y + 0) h hb (by omega)
  have u1 := rb_u (code := 100 * x + 10 * y + 1) h hb (by omega)
  have uu := u7_u7 (c := gsum d (dbt d) - dbt d x y) (k1 := 100 * x + 10 * y + 0) (k2 := 100 * x + 10 * y + 1) (t := t) (by omega)
  rcases (show cn d x y = 0 ∨ cn d x y = 1 ∨ cn d x y = 2 by omega) with e | e | e
  · have ef : ftd d L x y = -9 := by
      unfold ftd
      rw [if_neg (by omega), if_neg (by omega)]
    unfold bs6
    rw [e, if_pos ef]
    exact h
  · have em : mi7 d L x y (1 : Int).toNat t = ms7 d L x y 0 t := rfl
    rw [e, em]
    unfold bs6 ms7
    by_cases c0 : dec d x y 0 = -9 ∧ dec d x y 1 ≠ L
    · have ef : ftd d L x y = 0 := by
        unfold ftd
        rw [if_pos ⟨by omega, c0⟩]
      rw [ef, if_neg (by omega), if_pos (show dec d x y 0 = -9 ∧ dec d x y (1 - 0) ≠ L from c0)]
      exact u0
    · have ef : ftd d L x y = -9 := by
        unfold ftd
        rw [if_neg (fun z => c0 z.2), if_neg (by omega)]
      rw [ef, if_pos rfl, if_neg (show ¬ (dec d x y 0 = -9 ∧ dec d x y (1 - 0) ≠ L) from c0)]
      exact h
  · have em : mi7 d L x y (2 : Int).toNat t = ms7 d L x y 1 (ms7 d L x y 0 t) := rfl
    rw [e, em]
    unfold bs6 ms7
    by_cases c0 : dec d x y 0 = -9 ∧ dec d x y 1 ≠ L
    · have ef : ftd d L x y = 0 := by
        unfold ftd
        rw [if_pos ⟨by omega, c0⟩]
      rw [ef, if_neg (by omega), if_pos (show dec d x y 0 = -9 ∧ dec d x y (1 - 0) ≠ L from c0)]
      by_cases c1 : dec d x y 1 = -9 ∧ dec d x y (1 - 1) ≠ L
      · rw [if_pos c1, uu]; exact u0
      · rw [if_neg c1]; exact u0
    · rw [if_neg (show ¬ (dec d x y 0 = -9 ∧ dec d x y (1 - 0) ≠ L) from c0)]
      by_cases c1 : dec d x y 1 = -9 ∧ dec d x y 0 ≠ L
      · have ef : ftd d L x y = 1 := by
          unfold ftd
          rw [if_neg (fun z => c0 z.2), if_pos ⟨by omega, c1⟩]
        rw [ef, if_neg (by omega), if_pos (show dec d x y 1 = -9 ∧ dec d x y (1 - 1) ≠ L from c1)]
        exact u1
      · have ef : ftd d L x y = -9 := by
          unfold ftd
          rw [if_neg (fun z => c0 z.2), if_neg (fun z => c1 z.2)]
        rw [ef, if_pos rfl, if_neg (show ¬ (dec d x y 1 = -9 ∧ dec d x y (1 - 1) ≠ L) from c1)]
        exact h
theorem rb_all {d : Nat → Nat → Int} (hO : OkD d) {L : Nat} (hL : L < 2) {s t : Int × Int} (h : rb (gsum d (dbt d)) s t) : ∀ c : Nat, rb (gsum d (dbt d)) (cf (bs6 d L) d c s) (cf (fun x y => mi7 d L x y (cn d x y).toNat) d c t)
  | 0 => h
  | c + 1 => by
    have ih := rb_all hO hL h c
    unfold cf
    by_cases g : ((c / 9 : Nat) : Int) < d 0 0 ∧ ((c % 9 : Nat) : Int) < d 0 1
    · rw [if_pos g, if_pos g]
      exact rb_cell hO hL ⟨by omega, g.1, by omega, g.2⟩ ih
    · rw [if_neg g, if_neg g]
      exact ih
theorem cf_skip {st : Int → Int → Int × Int → Int × Int} {d : Nat → Nat → Int} {s : Int × Int} {c : Nat} : ∀ k : Nat, (∀ j, c ≤ j → j < c + k → ¬ (((j / 9 : Nat) : Int) < d 0 0 ∧ ((j % 9 : Nat) : Int) < d 0 1)) → cf st d (c + k) s = cf st d c s
  | 0, _ => rfl
  | k + 1, h => by
    show (if (((c + k) / 9 : Nat) : Int) < d 0 0 ∧ (((c + k) % 9 : Nat) : Int) < d 0 1 then _ else cf st d (c + k) s) = _
    rw [if_neg (h (c + k) (by omega) (by omega))]
    exact cf_skip k (fun j j1 j2 => h j j1 (by omega))
def bd3 (s : Int × Int) : Prop := -9 ≤ s.1 ∧ s.1 ≤ 1000 ∧ -1 ≤ s.2 ∧ s.2 ≤ 162
theorem cf_bd {st : Int → Int → Int × Int → Int × Int} {d : Nat → Nat → Int} (hst : ∀ x y s, inG d x y → bd3 s → bd3 (st x y s)) {s : Int × Int} (h : bd3 s) : ∀ c : Nat, bd3 (cf st d c s)
  | 0 => h
  | c + 1 => by
    have ih := cf_bd hst h c
    unfold cf
    by_cases g : ((c / 9 : Nat) : Int) < d 0 0 ∧ ((c % 9 : Nat) : Int) < d 0 1
    · rw [if_pos g]; exact hst _ _ _ ⟨by omega, g.1, by omega, g.2⟩ ih
    · rw [if_neg g]; exact ih
theorem dbt_le {d : Nat → Nat → Int} (hO : OkD d) {x y : Int} (g : inG d x y) : 0 ≤ dbt d x y ∧ dbt d x y ≤ 2 := by
  have := hO.cn g
  unfold dbt
  split <;> omega
theorem ftd_in (d : Nat → Nat → Int) (L : Nat) (x y : Int) : ftd d L x y = -9 ∨ ftd d L x y = 0 ∨ ftd d L x y = 1 := by
  unfold ftd
  split
  · omega
  · split <;> omega
theorem bd3_6 {d : Nat → Nat → Int} (hO : OkD d) {L : Nat} (x y : Int) (s : Int × Int) (g : inG d x y) (h : bd3 s) : bd3 (bs6 d L x y s) := by
  have g9 := hO.g9 g
  have hb := dbt_le hO g
  have hf := ftd_in d L x y
  unfold bs6 u6
  by_cases c : ftd d L x y = -9
  · rw [if_pos c]; exact h
  · rw [if_neg c]
    by_cases c2 : dbt d x y ≤ s.2
    · rw [if_pos c2]; exact h
    · rw [if_neg c2]
      exact ⟨by show -9 ≤ 100 * x + 10 * y + ftd d L x y; omega, by show 100 * x + 10 * y + ftd d L x y ≤ 1000; omega, by show -1 ≤ dbt d x y; omega, by show dbt d x y ≤ 162; omega⟩
theorem dbt_sub {d : Nat → Nat → Int} (hO : OkD d) {x y : Int} (g : inG d x y) : 0 ≤ gsum d (dbt d) - dbt d x y := by
  obtain ⟨w1, w2, w3, w4⟩ := hO.wh
  obtain ⟨a1, a2, a3, a4⟩ := g
  have ex : ((x.toNat : Nat) : Int) = x := by omega
  have ey : ((y.toNat : Nat) : Int) = y := by omega
  have in1 : zsum (d 0 1).toNat (fun Y : Nat => if (Y : Int) = y then 0 else dbt d x Y) = zsum (d 0 1).toNat (fun Y : Nat => dbt d x Y) + ((if ((y.toNat : Nat) : Int) = y then 0 else dbt d x (y.toNat : Nat)) - dbt d x (y.toNat : Nat)) := zsum_one (f := fun Y : Nat => dbt d x Y) (g := fun Y : Nat => if (Y : Int) = y then 0 else dbt d x Y) (p := y.toNat) (d 0 1).toNat (by omega) (fun j hj hjn => if_neg (by omega))
  have out1 : zsum (d 0 0).toNat (fun X : Nat => zsum (d 0 1).toNat (fun Y : Nat => if (X : Int) = x ∧ (Y : Int) = y then 0 else dbt d X Y)) = zsum (d 0 0).toNat (fun X : Nat => zsum (d 0 1).toNat (fun Y : Nat => dbt d X Y)) + (zsum (d 0 1).toNat (fun Y : Nat => if ((x.toNat : Nat) : Int) = x ∧ (Y : Int) = y then 0 else dbt d (x.toNat : Nat) Y) - zsum (d 0 1).toNat (fun Y : Nat => dbt d (x.toNat : Nat) Y)) := zsum_one (f := fun X : Nat => zsum (d 0 1).toNat (fun Y : Nat => dbt d X Y)) (g := fun X : Nat => zsum (d 0 1).toNat (fun Y : Nat => if (X : Int) = x ∧ (Y : Int) = y then 0 else dbt d X Y)) (p := x.toNat) (d 0 0).toNat (by omega) (fun k hk hkn => zsum_congr _ (fun j hj => if_neg (by omega)))
  have p1 := zsum_le (f := fun X : Nat => zsum (d 0 1).toNat (fun Y : Nat => if (X : Int) = x ∧ (Y : Int) = y then 0 else dbt d X Y)) (m := 18) (d 0 0).toNat (fun k hk => by
    have p2 := zsum_le (f := fun Y : Nat => if (k : Int) = x ∧ (Y : Int) = y then 0 else dbt d k Y) (m := 2) (d 0 1).toNat (fun j hj => by
      have := dbt_le hO (x := k) (y := j) ⟨by omega, by omega, by omega, by omega⟩
      split <;> omega)
    omega)
  have e3 : zsum (d 0 1).toNat (fun Y : Nat => if ((x.toNat : Nat) : Int) = x ∧ (Y : Int) = y then 0 else dbt d (x.toNat : Nat) Y) = zsum (d 0 1).toNat (fun Y : Nat => if (Y : Int) = y then 0 else dbt d x Y) := zsum_congr _ (fun j hj => by
    by_cases c : (j : Int) = y
    · rw [if_pos ⟨ex, c⟩, if_pos c]
    · rw [if_neg (fun z => c z.2), if_neg c, ex])
  have e4 : zsum (d 0 1).toNat (fun Y : Nat => dbt d (x.toNat : Nat) Y) = zsum (d 0 1).toNat (fun Y : Nat => dbt d x Y) := zsum_congr _ (fun j hj => by rw [ex])
  have e5 : (if ((y.toNat : Nat) : Int) = y then 0 else dbt d x (y.toNat : Nat)) = 0 := if_pos ey
  have e6 : dbt d x (y.toNat : Nat) = dbt d x y := by rw [ey]
  unfold gsum
  omega
