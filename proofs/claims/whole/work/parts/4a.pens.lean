/-! a mark less, a decision, a letter's pen, margin and gap: page and Sheet stay the same sheet -/
section Rm
variable {d : Nat → Nat → Int} {x y i : Int}
theorem dmv_lo {r : Nat} (h : r < 5) : dmv d x y i r = d r := by
  unfold dmv
  by_cases c : i = 0
  · rw [if_pos c, dmark_lo h]
  · rw [if_neg c]
theorem drem_lo {r : Nat} (h : r < 4) : drem d x y i r = d r := by
  unfold drem
  rw [dput_ne (by omega), dmv_lo (by omega)]
theorem drem_hi {r : Nat} (h : 4 < r) : drem d x y i r = dmv d x y i r := by
  unfold drem
  rw [dput_ne (by omega)]
theorem drem_cn {x' y' : Int} (g : 0 ≤ x ∧ x < 9 ∧ 0 ≤ y ∧ y < 9) (g' : 0 ≤ x' ∧ x' < 9 ∧ 0 ≤ y' ∧ y' < 9) : cn (drem d x y i) x' y' = if x' = x ∧ y' = y then cn d x y - 1 else cn d x' y' := by
  show drem d x y i 4 _ = _
  unfold drem
  rw [dput_self, dmv_lo (by omega)]
  by_cases c : x' = x ∧ y' = y
  · rw [if_pos c, upZ_eq _ _ (by rw [c.1, c.2])]
  · rw [if_neg c, upZ_ne _ _ (by omega)]
    rfl
theorem drem_ot {q : Nat} (hq : q ≠ pl x y 0) : drem d x y i 5 q = d 5 q ∧ drem d x y i 6 q = d 6 q ∧ drem d x y i 7 q = d 7 q ∧ drem d x y i 8 q = d 8 q := by
  rw [drem_hi (by omega), drem_hi (by omega), drem_hi (by omega), drem_hi (by omega)]
  unfold dmv
  by_cases c : i = 0
  · rw [if_pos c, dmark_5, dmark_6, dmark_7, dmark_8, upZ_ne _ _ hq, upZ_ne _ _ hq, upZ_ne _ _ hq, upZ_ne _ _ hq]
    exact ⟨rfl, rfl, rfl, rfl⟩
  · rw [if_neg c]
    exact ⟨rfl, rfl, rfl, rfl⟩
theorem drem_0 : drem d x y i 5 (pl x y 0) = d 5 (pl x y (if i = 0 then 1 else 0)) ∧ drem d x y i 6 (pl x y 0) = d 6 (pl x y (if i = 0 then 1 else 0)) ∧ drem d x y i 7 (pl x y 0) = d 7 (pl x y (if i = 0 then 1 else 0)) ∧ drem d x y i 8 (pl x y 0) = d 8 (pl x y (if i = 0 then 1 else 0)) := by
  rw [drem_hi (by omega), drem_hi (by omega), drem_hi (by omega), drem_hi (by omega)]
  unfold dmv
  by_cases c : i = 0
  · rw [if_pos c, if_pos c, dmark_5, dmark_6, dmark_7, dmark_8, upZ_self, upZ_self, upZ_self, upZ_self]
    exact ⟨rfl, rfl, rfl, rfl⟩
  · rw [if_neg c, if_neg c]
    exact ⟨rfl, rfl, rfl, rfl⟩
theorem OkD_rem (hO : OkD d) (g : inG d x y) (i1 : 0 ≤ i) (i2 : i < cn d x y) : OkD (drem d x y i) := by
  have g9 := hO.g9 g
  have hcn := hO.cn g
  refine ⟨?_, ?_, ?_, ?_⟩
  · rw [drem_lo (by omega)]; exact hO.1
  · have := hO.2.1
    unfold lwOk at this ⊢
    rw [drem_lo (by omega), drem_lo (by omega), drem_lo (by omega)]; exact this
  · have := hO.2.2.1
    unfold lwOk at this ⊢
    rw [drem_lo (by omega), drem_lo (by omega), drem_lo (by omega)]; exact this
  · intro x' y' g'
    rw [inG_row (drem_lo (by omega))] at g'
    have g9' := hO.g9 g'
    have hcn' := hO.cn g'
    have hk := hO.2.2.2 x' y' g'
    rw [drem_cn g9 g9']
    by_cases c : x' = x ∧ y' = y
    · rw [if_pos c]
      obtain ⟨rfl, rfl⟩ := c
      refine ⟨by omega, by omega, fun j j1 j2 => ?_, fun h2 => by omega⟩
      have e : j = 0 := by omega
      subst e
      unfold mkOk
      obtain ⟨m5, m6, m7, m8⟩ := drem_0 (d := d) (x := x') (y := y') (i := i)
      rw [m5, m6, m7, m8]
      refine hk.2.2.1 _ ?_ ?_
      · split <;> omega
      · split <;> omega
    · rw [if_neg c]
      refine ⟨hk.1, hk.2.1, fun j j1 j2 => ?_, fun h2 => ?_⟩
      · unfold mkOk
        obtain ⟨m5, m6, m7, m8⟩ := drem_ot (d := d) (i := i) (pl_ne g9 g9' (i := 0) (by omega) (by omega) j1 (by omega) (fun z => c ⟨z.1, z.2.1⟩))
        rw [m5, m6, m7, m8]
        exact hk.2.2.1 j j1 j2
      · obtain ⟨-, -, -, m8⟩ := drem_ot (d := d) (i := i) (pl_ne g9 g9' (i := 0) (i' := 0) (by omega) (by omega) (by omega) (by omega) (fun z => c ⟨z.1, z.2.1⟩))
        obtain ⟨-, -, -, n8⟩ := drem_ot (d := d) (i := i) (pl_ne g9 g9' (i := 0) (i' := 1) (by omega) (by omega) (by omega) (by omega) (fun z => c ⟨z.1, z.2.1⟩))
        rw [m8, n8]
        exact hk.2.2.2 h2
end Rm
def prem (r : Nat → Int) (c i : Int) : Nat → Int := upZ (if i = 0 then pmk r (c + 1) (r (c + 5).toNat) (r (c + 6).toNat) (r (c + 7).toNat) (r (c + 8).toNat) else r) c.toNat (r c.toNat - 1)
theorem prem_out {r : Nat → Int} {c i : Int} {j : Nat} (h : (j : Int) < c ∨ c + 4 < j) (h0 : 0 ≤ c) : prem r c i j = r j := by
  unfold prem
  rw [upZ_ne _ _ (by omega)]
  by_cases e : i = 0
  · rw [if_pos e, pmk_out (by omega) (by omega)]
  · rw [if_neg e]
theorem prem_0 {r : Nat → Int} {c i : Int} (h0 : 0 ≤ c) : prem r c i (c + 1).toNat = r (c + 1 + 4 * (if i = 0 then 1 else 0)).toNat ∧ prem r c i (c + 1 + 1).toNat = r (c + 1 + 4 * (if i = 0 then 1 else 0) + 1).toNat ∧ prem r c i (c + 1 + 2).toNat = r (c + 1 + 4 * (if i = 0 then 1 else 0) + 2).toNat ∧ prem r c i (c + 1 + 3).toNat = r (c + 1 + 4 * (if i = 0 then 1 else 0) + 3).toNat := by
  unfold prem
  rw [upZ_ne _ _ (by omega), upZ_ne _ _ (by omega), upZ_ne _ _ (by omega), upZ_ne _ _ (by omega)]
  by_cases e : i = 0
  · rw [if_pos e, if_pos e]
    obtain ⟨a1, a2, a3, a4⟩ := pmk_in (r := r) (q := c + 1) (s := r (c + 5).toNat) (k := r (c + 6).toNat) (w := r (c + 7).toNat) (e := r (c + 8).toNat) (by omega)
    rw [a1, a2, a3, a4, show c + 1 + 4 * 1 = c + 5 by omega, show c + 5 + 1 = c + 6 by omega, show c + 5 + 2 = c + 7 by omega, show c + 5 + 3 = c + 8 by omega]
    exact ⟨rfl, rfl, rfl, rfl⟩
  · rw [if_neg e, if_neg e, show c + 1 + 4 * 0 = c + 1 by omega]
    exact ⟨rfl, rfl, rfl, rfl⟩
section Pr
variable {T : zT} {h : zH} {a : Nat} {r : Nat → Int} {d : Nat → Nat → Int}
theorem eraseOn_eq (hA : Arr T h a 739 r) {c i : Int} (c1 : 10 ≤ c) (c2 : c ≤ 730) (i1 : 0 ≤ i) (i2 : i < 2) : ∃ h', FX7_eraseOn T a (iZ c) (iZ i) h = some (iZ (r (c + 1 + 4 * i).toNat), h') ∧ Arr T h' a 739 (prem r c i) ∧ ∀ j, j ≠ a → h' j = h j := by
  have r0 : zai T h a (iZ (c + 1 + 4 * i)) = some (iZ (r (c + 1 + 4 * i).toNat)) := zai_p hA (by omega) (by omega)
  unfold FX7_eraseOn
  rw [markAt_eq, zsn, r0, zsn, show FUEL = 9995 + 1 + 1 + 1 + 1 + 1 from rfl]
  by_cases e : i = 0
  · have b0 : zai T h a (iZ (c + 5)) = some (iZ (r (c + 5).toNat)) := zai_p hA (by omega) (by omega)
    obtain ⟨g1, e1, a1, f1⟩ := zas_p (v := r (c + 5).toNat) hA (i := c + 1) (by omega) (by omega)
    have b1 : zai T g1 a (iZ (c + 6)) = some (iZ (r (c + 6).toNat)) := by rw [zai_p a1 (by omega) (by omega), upZ_ne _ _ (by omega)]
    obtain ⟨g2, e2, a2, f2⟩ := zas_p (v := r (c + 6).toNat) a1 (i := c + 1 + 1) (by omega) (by omega)
    have b2 : zai T g2 a (iZ (c + 7)) = some (iZ (r (c + 7).toNat)) := by rw [zai_p a2 (by omega) (by omega), upZ_ne _ _ (by omega), upZ_ne _ _ (by omega)]
    obtain ⟨g3, e3, a3, f3⟩ := zas_p (v := r (c + 7).toNat) a2 (i := c + 1 + 2) (by omega) (by omega)
    have b3 : zai T g3 a (iZ (c + 8)) = some (iZ (r (c + 8).toNat)) := by rw [zai_p a3 (by omega) (by omega), upZ_ne _ _ (by omega), upZ_ne _ _ (by omega), upZ_ne _ _ (by omega)]
    obtain ⟨g4, e4, a4, f4⟩ := zas_p (v := r (c + 8).toNat) a3 (i := c + 1 + 3) (by omega) (by omega)
    have b4 : zai T g4 a (iZ c) = some (iZ (r c.toNat)) := by rw [zai_p a4 (by omega) (by omega), upZ_ne _ _ (by omega), upZ_ne _ _ (by omega), upZ_ne _ _ (by omega), upZ_ne _ _ (by omega)]
    obtain ⟨g5, e5, a5, f5⟩ := zas_p (v := r c.toNat - 1) a4 (i := c) (by omega) (by omega)
    refine ⟨g5, ?_, ?_, fun j hj => (f5 j hj).trans ((f4 j hj).trans ((f3 j hj).trans ((f2 j hj).trans (f1 j hj))))⟩
    · have st : ∀ (k : Nat) (m m' u w : Int) (g g' : zH) (v : Int), 0 ≤ m → m < 4 → m + 1 = m' → c + 5 + m = u → c + 1 + m = w → zai T g a (iZ u) = some (iZ v) → zas T g a (iZ w) (iZ v) = some g' → LX7_eraseOn_11 T a (iZ c) (iZ i) (iZ (r (c + 1 + 4 * i).toNat)) (fun (h16 : zH) => (zai T h16 a (iZ c)).bind fun x17 => (zas T h16 a (iZ c) (x17 - 1)).bind fun h18 => some (iZ (r (c + 1 + 4 * i).toNat), h18)) (k + 1) (iZ m) g = LX7_eraseOn_11 T a (iZ c) (iZ i) (iZ (r (c + 1 + 4 * i).toNat)) (fun (h16 : zH) => (zai T h16 a (iZ c)).bind fun x17 => (zas T h16 a (iZ c) (x17 - 1)).bind fun h18 => some (iZ (r (c + 1 + 4 * i).toNat), h18)) k (iZ m') g' := by
        intro k m m' u w g g' v m1 m2 hm hu hw z1 z2
        rw [LX7_eraseOn_11.eq_2]
        have z0 : c + 1 + 4 * 1 + m = u := by omega
        have z9 : c + 1 + 4 * 0 + m = w := by omega
        simp (disch := omega) only [q4, q0, q1, iZ_le, iZ_eq, if_neg, if_pos, markAt_eq, zsn, iZ_add, z0, z9, z1, z2, hm]
      rw [q0, st (9995 + 1 + 1 + 1 + 1) 0 1 (c + 5) (c + 1) h g1 _ (by omega) (by omega) (by omega) (by omega) (by omega) b0 e1, st (9995 + 1 + 1 + 1) 1 2 (c + 6) (c + 1 + 1) g1 g2 _ (by omega) (by omega) (by omega) (by omega) (by omega) b1 e2, st (9995 + 1 + 1) 2 3 (c + 7) (c + 1 + 2) g2 g3 _ (by omega) (by omega) (by omega) (by omega) (by omega) b2 e3, st (9995 + 1) 3 4 (c + 8) (c + 1 + 3) g3 g4 _ (by omega) (by omega) (by omega) (by omega) (by omega) b3 e4]
      rw [LX7_eraseOn_11.eq_2]
      simp (disch := omega) only [q4, iZ_le, if_pos, b4, zsn, q1, iZ_sub, e5]
    · unfold prem
      rw [if_pos e]
      exact a5
  · have b4 : zai T h a (iZ c) = some (iZ (r c.toNat)) := zai_p hA (by omega) (by omega)
    obtain ⟨g5, e5, a5, f5⟩ := zas_p (v := r c.toNat - 1) hA (i := c) (by omega) (by omega)
    refine ⟨g5, ?_, ?_, f5⟩
    · rw [LX7_eraseOn_11.eq_2]
      simp (disch := omega) only [q4, q0, q1, iZ_le, iZ_eq, if_neg, b4, zsn, iZ_sub, e5]
    · unfold prem
      rw [if_neg e]
      exact a5
theorem PgM_rem (hP : PgM d r) (hO : OkD d) {x y i : Int} (g : inG d x y) (i1 : 0 ≤ i) (i2 : i < cn d x y) : PgM (drem d x y i) (prem r (cel x y) i) := by
  have g9 := hO.g9 g
  have hcn := hO.cn g
  have lo : ∀ j : Nat, j < 10 → prem r (cel x y) i j = r j := fun j hj => by
    have := cel_in g9
    rw [prem_out (by omega) (by omega)]
  have hcell : ∀ x' y' : Int, 0 ≤ x' ∧ x' < 9 ∧ 0 ≤ y' ∧ y' < 9 → ¬ (x' = x ∧ y' = y) → ∀ j : Nat, cel x' y' ≤ j → j < cel x' y' + 9 → prem r (cel x y) i j = r j := fun x' y' g' ne j j1 j2 => by
    unfold cel at j1 j2
    unfold cel
    rw [prem_out (by omega) (by omega)]
  refine ⟨?_, ?_, ?_, ?_, ?_, ?_, ?_⟩
  · rw [lo 0 (by omega), drem_lo (by omega)]; exact hP.w
  · rw [lo 1 (by omega), drem_lo (by omega)]; exact hP.v
  · rw [lo 3 (by omega), drem_lo (by omega)]; exact hP.g
  · intro i hi
    rw [lo _ (by omega), lo _ (by omega), lo _ (by omega), drem_lo (by omega), drem_lo (by omega), drem_lo (by omega)]
    exact hP.p i hi
  · intro x' y' g'
    rw [inG_row (drem_lo (by omega))] at g'
    have g9' := hO.g9 g'
    rw [drem_cn g9 g9']
    by_cases c : x' = x ∧ y' = y
    · rw [if_pos c]
      obtain ⟨rfl, rfl⟩ := c
      rw [← hP.c x' y' g]
      exact upZ_self _ _ _
    · rw [if_neg c, hcell x' y' g9' c _ (by have := cel_in g9'; omega) (by have := cel_in g9'; omega)]
      exact hP.c x' y' g'
  · intro x' y' x1 x2 y1 y2 g'
    rw [inG_row (drem_lo (by omega))] at g'
    rw [hcell x' y' ⟨x1, x2, y1, y2⟩ (fun z => g' (by rw [z.1, z.2]; exact g)) _ (by have := cel_in ⟨x1, x2, y1, y2⟩; omega) (by have := cel_in ⟨x1, x2, y1, y2⟩; omega)]
    exact hP.o x' y' x1 x2 y1 y2 g'
  · intro x' y' j g' j1 j2
    rw [inG_row (drem_lo (by omega))] at g'
    have g9' := hO.g9 g'
    have hcn' := hO.cn g'
    have hcl := cel_in g9'
    rw [drem_cn g9 g9'] at j2
    by_cases c : x' = x ∧ y' = y
    · rw [if_pos c] at j2
      obtain ⟨rfl, rfl⟩ := c
      have e : j = 0 := by omega
      subst e
      obtain ⟨m5, m6, m7, m8⟩ := drem_0 (d := d) (x := x') (y := y') (i := i)
      obtain ⟨p5, p6, p7, p8⟩ := prem_0 (r := r) (c := cel x' y') (i := i) (by omega)
      rw [m5, m6, m7, m8, show cel x' y' + 1 + 4 * 0 = cel x' y' + 1 by omega, p5, p6, p7, p8]
      refine hP.m x' y' _ g ?_ ?_
      · split <;> omega
      · split <;> omega
    · rw [if_neg c] at j2
      obtain ⟨m5, m6, m7, m8⟩ := drem_ot (d := d) (i := i) (pl_ne g9 g9' (i := 0) (by omega) (by omega) j1 (by omega) (fun z => c ⟨z.1, z.2.1⟩))
      rw [m5, m6, m7, m8, hcell x' y' g9' c _ (by omega) (by omega), hcell x' y' g9' c _ (by omega) (by omega), hcell x' y' g9' c _ (by omega) (by omega), hcell x' y' g9' c _ (by omega) (by omega)]
      exact hP.m x' y' j g' j1 j2
theorem Pg_rem (hP : Pg d r) (hO : OkD d) {x y i : Int} (g : inG d x y) (i1 : 0 ≤ i) (i2 : i < cn d x y) : Pg (drem d x y i) (prem r (cel x y) i) := by
  refine ⟨PgM_rem hP.1 hO g i1 i2, ?_⟩
  have := cel_in (hO.g9 g)
  rw [drem_lo (by omega), ← hP.2, prem_out (by omega) (by omega)]
end Pr
