/-! what writes a page of the reference; page and Sheet stay the same sheet -/
/-- not by rfl: the kernel gets lost in long chains that simp took for definitional -/
theorem zsn {α β : Type} (a : α) (f : α → Option β) : (some a).bind f = f a := by rw [zsb]
section Dm
variable {d : Nat → Nat → Int} {p : Nat} {s k w e : Int}
theorem dmark_5 : dmark d p s k w e 5 = upZ (d 5) p s := by
  unfold dmark
  rw [dput_ne (by omega), dput_ne (by omega), dput_ne (by omega), dput_self]
theorem dmark_6 : dmark d p s k w e 6 = upZ (d 6) p k := by
  unfold dmark
  rw [dput_ne (by omega), dput_ne (by omega), dput_self, dput_ne (by omega)]
theorem dmark_7 : dmark d p s k w e 7 = upZ (d 7) p w := by
  unfold dmark
  rw [dput_ne (by omega), dput_self, dput_ne (by omega), dput_ne (by omega)]
theorem dmark_8 : dmark d p s k w e 8 = upZ (d 8) p e := by
  unfold dmark
  rw [dput_self, dput_ne (by omega), dput_ne (by omega), dput_ne (by omega)]
end Dm
theorem inG_row {d d' : Nat → Nat → Int} (h : d' 0 = d 0) {x y : Int} : inG d' x y ↔ inG d x y := by unfold inG; rw [h]
section Ad
variable {d : Nat → Nat → Int} {x y s k w : Int}
theorem dadd_lo {r : Nat} (h : r < 4) : dadd d x y s k w r = d r := by
  unfold dadd
  rw [dmark_lo (by omega), dput_ne (by omega)]
theorem dadd_cn {x' y' : Int} (g : 0 ≤ x ∧ x < 9 ∧ 0 ≤ y ∧ y < 9) (g' : 0 ≤ x' ∧ x' < 9 ∧ 0 ≤ y' ∧ y' < 9) : cn (dadd d x y s k w) x' y' = if x' = x ∧ y' = y then cn d x y + 1 else cn d x' y' := by
  unfold dadd
  show dmark _ _ _ _ _ _ 4 _ = _
  rw [dmark_lo (by omega), dput_self]
  by_cases c : x' = x ∧ y' = y
  · rw [if_pos c, upZ_eq _ _ (by rw [c.1, c.2])]
  · rw [if_neg c, upZ_ne _ _ (by omega)]
    rfl
theorem dadd_m {q : Nat} : dadd d x y s k w 5 q = upZ (d 5) (pl x y (cn d x y)) s q ∧ dadd d x y s k w 6 q = upZ (d 6) (pl x y (cn d x y)) k q ∧ dadd d x y s k w 7 q = upZ (d 7) (pl x y (cn d x y)) w q ∧ dadd d x y s k w 8 q = upZ (d 8) (pl x y (cn d x y)) (-9) q := by
  unfold dadd
  rw [dmark_5, dmark_6, dmark_7, dmark_8, dput_ne (by omega), dput_ne (by omega), dput_ne (by omega), dput_ne (by omega)]
  exact ⟨rfl, rfl, rfl, rfl⟩
theorem pl_ne {x y i x' y' i' : Int} (g : 0 ≤ x ∧ x < 9 ∧ 0 ≤ y ∧ y < 9) (g' : 0 ≤ x' ∧ x' < 9 ∧ 0 ≤ y' ∧ y' < 9) (i1 : 0 ≤ i) (i2 : i < 2) (j1 : 0 ≤ i') (j2 : i' < 2) (h : ¬ (x' = x ∧ y' = y ∧ i' = i)) : pl x' y' i' ≠ pl x y i := by
  unfold pl
  omega
theorem OkD_add (hO : OkD d) (g : inG d x y) (hc : cn d x y < 2) (s1 : 0 ≤ s) (s2 : s ≤ 26) (k1 : 0 ≤ k) (k2 : k ≤ 3) (w1 : 0 ≤ w) (w2 : w ≤ 8) : OkD (dadd d x y s k w) := by
  have g9 := hO.g9 g
  have hcn := hO.cn g
  refine ⟨?_, ?_, ?_, ?_⟩
  · rw [dadd_lo (by omega)]; exact hO.1
  · have := hO.2.1
    unfold lwOk at this ⊢
    rw [dadd_lo (by omega), dadd_lo (by omega), dadd_lo (by omega)]; exact this
  · have := hO.2.2.1
    unfold lwOk at this ⊢
    rw [dadd_lo (by omega), dadd_lo (by omega), dadd_lo (by omega)]; exact this
  · intro x' y' g'
    rw [inG_row (dadd_lo (by omega))] at g'
    have g9' := hO.g9 g'
    have hcn' := hO.cn g'
    have hk := hO.2.2.2 x' y' g'
    rw [dadd_cn g9 g9']
    by_cases c : x' = x ∧ y' = y
    · rw [if_pos c]
      obtain ⟨rfl, rfl⟩ := c
      refine ⟨by omega, by omega, fun i i1 i2 => ?_, fun h2 => ?_⟩
      · unfold mkOk
        obtain ⟨m5, m6, m7, m8⟩ := dadd_m (d := d) (x := x') (y := y') (s := s) (k := k) (w := w) (q := pl x' y' i)
        rw [m5, m6, m7, m8]
        by_cases ci : i = cn d x' y'
        · rw [ci, upZ_self, upZ_self, upZ_self, upZ_self]
          omega
        · have hp := pl_ne g9 g9 hcn.1 hc i1 (by omega) (fun z => ci z.2.2)
          rw [upZ_ne _ _ hp, upZ_ne _ _ hp, upZ_ne _ _ hp, upZ_ne _ _ hp]
          exact hk.2.2.1 i i1 (by omega)
      · refine Or.inr (Or.inl ?_)
        obtain ⟨m5, m6, m7, m8⟩ := dadd_m (d := d) (x := x') (y := y') (s := s) (k := k) (w := w) (q := pl x' y' 1)
        rw [m8, show cn d x' y' = 1 by omega, upZ_self]
    · rw [if_neg c]
      refine ⟨hk.1, hk.2.1, fun i i1 i2 => ?_, fun h2 => ?_⟩
      · unfold mkOk
        obtain ⟨m5, m6, m7, m8⟩ := dadd_m (d := d) (x := x) (y := y) (s := s) (k := k) (w := w) (q := pl x' y' i)
        have hp := pl_ne g9 g9' hcn.1 hc i1 (by omega) (fun z => c ⟨z.1, z.2.1⟩)
        rw [m5, m6, m7, m8, upZ_ne _ _ hp, upZ_ne _ _ hp, upZ_ne _ _ hp, upZ_ne _ _ hp]
        exact hk.2.2.1 i i1 i2
      · have hp0 := pl_ne g9 g9' hcn.1 hc (i' := 0) (by omega) (by omega) (fun z => c ⟨z.1, z.2.1⟩)
        have hp1 := pl_ne g9 g9' hcn.1 hc (i' := 1) (by omega) (by omega) (fun z => c ⟨z.1, z.2.1⟩)
        rw [dadd_m.2.2.2, dadd_m.2.2.2, upZ_ne _ _ hp0, upZ_ne _ _ hp1]
        exact hk.2.2.2 h2
end Ad
/-- the page with a mark more -/
def pmk (r : Nat → Int) (q : Int) (s k w e : Int) : Nat → Int := upZ (upZ (upZ (upZ r q.toNat s) (q + 1).toNat k) (q + 2).toNat w) (q + 3).toNat e
theorem pmk_out {r : Nat → Int} {q s k w e : Int} {j : Nat} (h : (j : Int) < q ∨ q + 3 < j) (h0 : 0 ≤ q) : pmk r q s k w e j = r j := by
  unfold pmk
  rw [upZ_ne _ _ (by omega), upZ_ne _ _ (by omega), upZ_ne _ _ (by omega), upZ_ne _ _ (by omega)]
theorem pmk_in {r : Nat → Int} {q s k w e : Int} (h0 : 0 ≤ q) : pmk r q s k w e q.toNat = s ∧ pmk r q s k w e (q + 1).toNat = k ∧ pmk r q s k w e (q + 2).toNat = w ∧ pmk r q s k w e (q + 3).toNat = e := by
  unfold pmk
  refine ⟨?_, ?_, ?_, ?_⟩
  · rw [upZ_ne _ _ (by omega), upZ_ne _ _ (by omega), upZ_ne _ _ (by omega), upZ_self]
  · rw [upZ_ne _ _ (by omega), upZ_ne _ _ (by omega), upZ_self]
  · rw [upZ_ne _ _ (by omega), upZ_self]
  · rw [upZ_self]
section Pn
variable {T : zT} {h : zH} {a : Nat} {r : Nat → Int} {d : Nat → Nat → Int}
theorem zas_p (hA : Arr T h a 739 r) {i v : Int} (h1 : 0 ≤ i) (h2 : i < 739) : ∃ h', zas T h a (iZ i) (iZ v) = some h' ∧ Arr T h' a 739 (upZ r i.toNat v) ∧ ∀ q, q ≠ a → h' q = h q := zas_Arr hA h1 (by omega) (by omega)
theorem pmk_run (hA : Arr T h a 739 r) {q s k w e : Int} (h1 : 0 ≤ q) (h2 : q < 736) : ∃ h1' h2' h3' h4', zas T h a (iZ q) (iZ s) = some h1' ∧ zas T h1' a (iZ (q + 1)) (iZ k) = some h2' ∧ zas T h2' a (iZ (q + 2)) (iZ w) = some h3' ∧ zas T h3' a (iZ (q + 3)) (iZ e) = some h4' ∧ Arr T h4' a 739 (pmk r q s k w e) ∧ ∀ j, j ≠ a → h4' j = h j := by
  obtain ⟨g1, e1, a1, f1⟩ := zas_p (v := s) hA (i := q) (by omega) (by omega)
  obtain ⟨g2, e2, a2, f2⟩ := zas_p (v := k) a1 (i := q + 1) (by omega) (by omega)
  obtain ⟨g3, e3, a3, f3⟩ := zas_p (v := w) a2 (i := q + 2) (by omega) (by omega)
  obtain ⟨g4, e4, a4, f4⟩ := zas_p (v := e) a3 (i := q + 3) (by omega) (by omega)
  exact ⟨g1, g2, g3, g4, e1, e2, e3, e4, a4, fun j hj => (f4 j hj).trans ((f3 j hj).trans ((f2 j hj).trans (f1 j hj)))⟩
def padd (r : Nat → Int) (c n s k w : Int) : Nat → Int := upZ (pmk r (c + 1 + 4 * n) s k w (-9)) c.toNat (n + 1)
theorem writeOn_eq (hA : Arr T h a 739 r) {c n s k w : Int} (c1 : 10 ≤ c) (c2 : c ≤ 730) (n1 : 0 ≤ n) (n2 : n < 2) (hc : r c.toNat = n) : ∃ h', FX7_writeOn T a (iZ c) (iZ s) (iZ k) (iZ w) h = some (iZ n, h') ∧ Arr T h' a 739 (padd r c n s k w) ∧ ∀ j, j ≠ a → h' j = h j := by
  obtain ⟨g1, g2, g3, g4, e1, e2, e3, e4, a4, f4⟩ := pmk_run hA (q := c + 1 + 4 * n) (s := s) (k := k) (w := w) (e := -9) (by omega) (by omega)
  obtain ⟨g5, e5, a5, f5⟩ := zas_p (v := n + 1) a4 (i := c) (by omega) (by omega)
  refine ⟨g5, ?_, a5, fun j hj => (f5 j hj).trans (f4 j hj)⟩
  have r0 : zai T h a (iZ c) = some (iZ n) := by rw [zai_p hA (by omega) (by omega), hc]
  have r4 : zai T g4 a (iZ c) = some (iZ n) := by rw [zai_p a4 (by omega) (by omega), pmk_out (by omega) (by omega), hc]
  have r5 : zai T g5 a (iZ c) = some (iZ (n + 1)) := by rw [zai_p a5 (by omega) (by omega), upZ_self]
  unfold FX7_writeOn
  simp only [r0, zsn, markAt_eq, e1, q1, q2, q3, qm9, iZ_add, e2, e3, e4, r4, e5, r5, iZ_sub, Int.add_sub_cancel]
theorem PgM_add (hP : PgM d r) (hO : OkD d) {x y s k w : Int} (g : inG d x y) (hc : cn d x y < 2) : PgM (dadd d x y s k w) (padd r (cel x y) (cn d x y) s k w) := by
  have g9 := hO.g9 g
  have hcn := hO.cn g
  have lo : ∀ j : Nat, j < 10 → padd r (cel x y) (cn d x y) s k w j = r j := fun j hj => by
    unfold padd cel
    rw [upZ_ne _ _ (by omega), pmk_out (by omega) (by omega)]
  have hcell : ∀ x' y' : Int, 0 ≤ x' ∧ x' < 9 ∧ 0 ≤ y' ∧ y' < 9 → ¬ (x' = x ∧ y' = y) → ∀ j : Nat, cel x' y' ≤ j → j < cel x' y' + 9 → padd r (cel x y) (cn d x y) s k w j = r j := fun x' y' g' ne j j1 j2 => by
    unfold cel at j1 j2
    unfold padd cel
    rw [upZ_ne _ _ (by omega), pmk_out (by omega) (by omega)]
  refine ⟨?_, ?_, ?_, ?_, ?_, ?_, ?_⟩
  · rw [lo 0 (by omega), dadd_lo (by omega)]; exact hP.w
  · rw [lo 1 (by omega), dadd_lo (by omega)]; exact hP.v
  · rw [lo 3 (by omega), dadd_lo (by omega)]; exact hP.g
  · intro i hi
    rw [lo _ (by omega), lo _ (by omega), lo _ (by omega), dadd_lo (by omega), dadd_lo (by omega), dadd_lo (by omega)]
    exact hP.p i hi
  · intro x' y' g'
    rw [inG_row (dadd_lo (by omega))] at g'
    have g9' := hO.g9 g'
    rw [dadd_cn g9 g9']
    by_cases c : x' = x ∧ y' = y
    · rw [if_pos c]
      obtain ⟨rfl, rfl⟩ := c
      exact upZ_self _ _ _
    · rw [if_neg c, hcell x' y' g9' c _ (by have := cel_in g9'; omega) (by have := cel_in g9'; omega)]
      exact hP.c x' y' g'
  · intro x' y' x1 x2 y1 y2 g'
    rw [inG_row (dadd_lo (by omega))] at g'
    rw [hcell x' y' ⟨x1, x2, y1, y2⟩ (fun z => g' (by rw [z.1, z.2]; exact g)) _ (by have := cel_in ⟨x1, x2, y1, y2⟩; omega) (by have := cel_in ⟨x1, x2, y1, y2⟩; omega)]
    exact hP.o x' y' x1 x2 y1 y2 g'
  · intro x' y' i g' i1 i2
    rw [inG_row (dadd_lo (by omega))] at g'
    have g9' := hO.g9 g'
    have hcn' := hO.cn g'
    have hcl := cel_in g9'
    rw [dadd_cn g9 g9'] at i2
    obtain ⟨m5, m6, m7, m8⟩ := dadd_m (d := d) (x := x) (y := y) (s := s) (k := k) (w := w) (q := pl x' y' i)
    rw [m5, m6, m7, m8]
    by_cases c : x' = x ∧ y' = y
    · rw [if_pos c] at i2
      obtain ⟨rfl, rfl⟩ := c
      unfold padd
      by_cases ci : i = cn d x' y'
      · rw [ci, upZ_self, upZ_self, upZ_self, upZ_self, upZ_ne _ _ (by omega), upZ_ne _ _ (by omega), upZ_ne _ _ (by omega), upZ_ne _ _ (by omega)]
        exact pmk_in (by omega)
      · have hp := pl_ne g9 g9 hcn.1 hc i1 (by omega) (fun z => ci z.2.2)
        rw [upZ_ne _ _ hp, upZ_ne _ _ hp, upZ_ne _ _ hp, upZ_ne _ _ hp, upZ_ne _ _ (by omega), upZ_ne _ _ (by omega), upZ_ne _ _ (by omega), upZ_ne _ _ (by omega), pmk_out (by omega) (by omega), pmk_out (by omega) (by omega), pmk_out (by omega) (by omega), pmk_out (by omega) (by omega)]
        exact hP.m x' y' i g' i1 (by omega)
    · rw [if_neg c] at i2
      have hp := pl_ne g9 g9' hcn.1 hc i1 (by omega) (fun z => c ⟨z.1, z.2.1⟩)
      rw [upZ_ne _ _ hp, upZ_ne _ _ hp, upZ_ne _ _ hp, upZ_ne _ _ hp, hcell x' y' g9' c _ (by omega) (by omega), hcell x' y' g9' c _ (by omega) (by omega), hcell x' y' g9' c _ (by omega) (by omega), hcell x' y' g9' c _ (by omega) (by omega)]
      exact hP.m x' y' i g' i1 i2
theorem Pg_add (hP : Pg d r) (hO : OkD d) {x y s k w : Int} (g : inG d x y) (hc : cn d x y < 2) : Pg (dadd d x y s k w) (padd r (cel x y) (cn d x y) s k w) := by
  refine ⟨PgM_add hP.1 hO g hc, ?_⟩
  have g9 := hO.g9 g
  have hcn := hO.cn g
  rw [dadd_lo (by omega), ← hP.2]
  unfold padd cel
  rw [upZ_ne _ _ (by omega), pmk_out (by omega) (by omega)]
end Pn
