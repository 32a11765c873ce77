/-! a decision, a letter's pen, margin and gap -/
theorem cn_row {d d' : Nat → Nat → Int} (h : d' 4 = d 4) (x y : Int) : cn d' x y = cn d x y := by unfold cn; rw [h]
def ddec (d : Nat → Nat → Int) (x y i z : Int) : Nat → Nat → Int := dput d 8 (pl x y i) z
section Dc
variable {d : Nat → Nat → Int} {x y i z : Int}
theorem ddec_lo {r : Nat} (h : r < 8) : ddec d x y i z r = d r := by
  unfold ddec
  rw [dput_ne (by omega)]
theorem ddec_8 {q : Nat} : ddec d x y i z 8 q = upZ (d 8) (pl x y i) z q := by
  unfold ddec
  rw [dput_self]
theorem OkD_dec (hO : OkD d) (g : inG d x y) (i1 : 0 ≤ i) (i2 : i < cn d x y) (hz : z = -9 ∨ ((z = 0 ∨ z = 1) ∧ dec d x y (1 - i) ≠ z)) : OkD (ddec d x y i z) := by
  have g9 := hO.g9 g
  have hcn := hO.cn g
  refine ⟨?_, ?_, ?_, ?_⟩
  · rw [ddec_lo (by omega)]; exact hO.1
  · have := hO.2.1
    unfold lwOk at this ⊢
    rw [ddec_lo (by omega), ddec_lo (by omega), ddec_lo (by omega)]; exact this
  · have := hO.2.2.1
    unfold lwOk at this ⊢
    rw [ddec_lo (by omega), ddec_lo (by omega), ddec_lo (by omega)]; exact this
  · intro x' y' g'
    rw [inG_row (ddec_lo (by omega))] at g'
    have g9' := hO.g9 g'
    have hcn' := hO.cn g'
    have hk := hO.2.2.2 x' y' g'
    rw [cn_row (ddec_lo (by omega))]
    refine ⟨hk.1, hk.2.1, fun j j1 j2 => ?_, fun h2 => ?_⟩
    · have h9 := hk.2.2.1 j j1 j2
      unfold mkOk at h9 ⊢
      rw [ddec_lo (by omega), ddec_lo (by omega), ddec_lo (by omega), ddec_8]
      by_cases c : x' = x ∧ y' = y ∧ j = i
      · obtain ⟨rfl, rfl, rfl⟩ := c
        rw [upZ_self]
        omega
      · rw [upZ_ne _ _ (pl_ne g9 g9' i1 (by omega) j1 (by omega) c)]
        exact h9
    · have h9 := hk.2.2.2 h2
      rw [ddec_8, ddec_8]
      by_cases c : x' = x ∧ y' = y
      · obtain ⟨rfl, rfl⟩ := c
        rcases (show i = 0 ∨ i = 1 by omega) with rfl | rfl
        · rw [upZ_self, upZ_ne _ _ (pl_ne g9 g9 (i := 0) (i' := 1) (by omega) (by omega) (by omega) (by omega) (by omega))]
          rw [show (1 : Int) - 0 = 1 from rfl, dec_lt (by omega)] at hz
          omega
        · rw [upZ_self, upZ_ne _ _ (pl_ne g9 g9 (i := 1) (i' := 0) (by omega) (by omega) (by omega) (by omega) (by omega))]
          rw [show (1 : Int) - 1 = 0 from rfl, dec_lt (by omega)] at hz
          omega
      · rw [upZ_ne _ _ (pl_ne g9 g9' i1 (by omega) (i' := 0) (by omega) (by omega) (fun w => c ⟨w.1, w.2.1⟩)), upZ_ne _ _ (pl_ne g9 g9' i1 (by omega) (i' := 1) (by omega) (by omega) (fun w => c ⟨w.1, w.2.1⟩))]
        exact h9
end Dc
section Dl
variable {d : Nat → Nat → Int} {k : Nat} {u v w : Int}
theorem dlet_ot {r : Nat} (h : r = 0 ∨ 3 < r) : dlet d k u v w r = d r := by
  unfold dlet
  rw [dput_ne (by omega), dput_ne (by omega), dput_ne (by omega)]
theorem dlet_1 : dlet d k u v w 1 = upZ (d 1) k u := by
  unfold dlet
  rw [dput_ne (by omega), dput_ne (by omega), dput_self]
theorem dlet_2 : dlet d k u v w 2 = upZ (d 2) k v := by
  unfold dlet
  rw [dput_ne (by omega), dput_self, dput_ne (by omega)]
theorem dlet_3 : dlet d k u v w 3 = upZ (d 3) k w := by
  unfold dlet
  rw [dput_self, dput_ne (by omega), dput_ne (by omega)]
theorem lw_let {j : Nat} (h : lwOk d j) (hk : j = k → 0 ≤ u ∧ u ≤ 3 ∧ 0 ≤ v ∧ v ≤ 8 ∧ 0 ≤ w ∧ w ≤ 1) : lwOk (dlet d k u v w) j := by
  unfold lwOk at h ⊢
  rw [dlet_1, dlet_2, dlet_3]
  by_cases c : j = k
  · rw [upZ_eq _ _ c, upZ_eq _ _ c, upZ_eq _ _ c]; exact hk c
  · rw [upZ_ne _ _ c, upZ_ne _ _ c, upZ_ne _ _ c]; exact h
/-- the rows of the cells are the same -/
theorem OkD_cells {d d' : Nat → Nat → Int} (hO : OkD d) (hg : ∀ x y, inG d' x y ↔ inG d x y) (h0 : 1 ≤ d' 0 0 ∧ d' 0 0 ≤ 9 ∧ 1 ≤ d' 0 1 ∧ d' 0 1 ≤ 9 ∧ 0 ≤ d' 0 2 ∧ d' 0 2 ≤ 9 ∧ 1 ≤ d' 0 3 ∧ d' 0 3 ≤ 3) (l0 : lwOk d' 0) (l1 : lwOk d' 1) (hr : ∀ r, 3 < r → d' r = d r) : OkD d' := by
  refine ⟨h0, l0, l1, fun x y g => ?_⟩
  have hk := hO.2.2.2 x y ((hg x y).mp g)
  unfold mkOk at hk ⊢
  rw [cn_row (hr 4 (by omega)), hr 5 (by omega), hr 6 (by omega), hr 7 (by omega), hr 8 (by omega)]
  exact hk
theorem OkD_let (hO : OkD d) (hu : 0 ≤ u ∧ u ≤ 3 ∧ 0 ≤ v ∧ v ≤ 8 ∧ 0 ≤ w ∧ w ≤ 1) : OkD (dlet d k u v w) :=
  OkD_cells hO (fun x y => inG_row (dlet_ot (by omega))) (by rw [dlet_ot (by omega)]; exact hO.1) (lw_let hO.2.1 (fun _ => hu)) (lw_let hO.2.2.1 (fun _ => hu)) (fun r hr => dlet_ot (by omega))
theorem d0_in {k : Nat} {m : Int} (hk : 2 ≤ k) (x y : Int) : inG (dput d 0 k m) x y ↔ inG d x y := by
  unfold inG
  rw [dput_self, upZ_ne _ _ (by omega), upZ_ne _ _ (by omega)]
theorem OkD_margin {m : Int} (hO : OkD d) (h1 : 0 ≤ m) (h2 : m ≤ 9) : OkD (dput d 0 2 m) := by
  have h0 := hO.1
  refine OkD_cells hO (d0_in (by omega)) ?_ ?_ ?_ (fun r hr => dput_ne (by omega))
  · rw [dput_self, upZ_ne _ _ (by omega), upZ_ne _ _ (by omega), upZ_self, upZ_ne _ _ (by omega)]
    omega
  · have := hO.2.1
    unfold lwOk at this ⊢
    rw [dput_ne (by omega), dput_ne (by omega), dput_ne (by omega)]; exact this
  · have := hO.2.2.1
    unfold lwOk at this ⊢
    rw [dput_ne (by omega), dput_ne (by omega), dput_ne (by omega)]; exact this
theorem OkD_gap {m : Int} (hO : OkD d) (h1 : 1 ≤ m) (h2 : m ≤ 3) : OkD (dput d 0 3 m) := by
  have h0 := hO.1
  refine OkD_cells hO (d0_in (by omega)) ?_ ?_ ?_ (fun r hr => dput_ne (by omega))
  · rw [dput_self, upZ_ne _ _ (by omega), upZ_ne _ _ (by omega), upZ_self, upZ_ne _ _ (by omega)]
    omega
  · have := hO.2.1
    unfold lwOk at this ⊢
    rw [dput_ne (by omega), dput_ne (by omega), dput_ne (by omega)]; exact this
  · have := hO.2.2.1
    unfold lwOk at this ⊢
    rw [dput_ne (by omega), dput_ne (by omega), dput_ne (by omega)]; exact this
end Dl
section Pw
variable {T : zT} {h : zH} {a : Nat} {r : Nat → Int} {d : Nat → Nat → Int}
theorem decideOn_eq (hA : Arr T h a 739 r) {c i z : Int} (c1 : 10 ≤ c) (c2 : c ≤ 730) (i1 : 0 ≤ i) (i2 : i < 2) (z1 : 0 ≤ z) (z2 : z ≤ 2) : ∃ h', FX7_decideOn T a (iZ c) (iZ i) (iZ z) h = some h' ∧ Arr T h' a 739 (upZ r (c + 1 + 4 * i + 3).toNat (if 0 ≤ z ∧ z < 2 then z else -9)) ∧ ∀ j, j ≠ a → h' j = h j := by
  obtain ⟨g1, e1, a1, f1⟩ := zas_p (v := if 0 ≤ z ∧ z < 2 then z else -9) hA (i := c + 1 + 4 * i + 3) (by omega) (by omega)
  refine ⟨g1, ?_, a1, f1⟩
  unfold FX7_decideOn
  by_cases e : z = 2
  · rw [if_neg (by omega)] at e1
    simp (disch := omega) only [zJ, markAt_eq, zsn, q2, q3, qm9, iZ_eq, if_pos, iZ_add, e1]
  · rw [if_pos (by omega)] at e1
    simp (disch := omega) only [zJ, markAt_eq, zsn, q2, q3, qm9, iZ_eq, if_neg, iZ_add, e1]
def plet (r : Nat → Int) (k : Nat) (u v w : Int) : Nat → Int := upZ (upZ (upZ r (4 + 3 * k) u) (4 + 3 * k + 1) v) (4 + 3 * k + 2) w
theorem plet_out {k j : Nat} {u v w : Int} (h : j < 4 + 3 * k ∨ 4 + 3 * k + 2 < j) : plet r k u v w j = r j := by
  unfold plet
  rw [upZ_ne _ _ (by omega), upZ_ne _ _ (by omega), upZ_ne _ _ (by omega)]
theorem penOn_eq (hA : Arr T h a 739 r) {k : Nat} {u v w : Int} (k2 : k < 2) : ∃ h', FX7_penOn T a (iZ k) (iZ u) (iZ v) (iZ w) h = some h' ∧ Arr T h' a 739 (plet r k u v w) ∧ ∀ j, j ≠ a → h' j = h j := by
  obtain ⟨g1, e1, a1, f1⟩ := zas_p (v := u) hA (i := 4 + 3 * (k : Int)) (by omega) (by omega)
  obtain ⟨g2, e2, a2, f2⟩ := zas_p (v := v) a1 (i := 4 + 3 * (k : Int) + 1) (by omega) (by omega)
  obtain ⟨g3, e3, a3, f3⟩ := zas_p (v := w) a2 (i := 4 + 3 * (k : Int) + 2) (by omega) (by omega)
  refine ⟨g3, ?_, ?_, fun j hj => (f3 j hj).trans ((f2 j hj).trans (f1 j hj))⟩
  · unfold FX7_penOn
    simp only [q1, q2, q3, q4, iZ_mul, iZ_add, e1, e2, e3, zsn]
  · rw [show (4 + 3 * (k : Int)).toNat = 4 + 3 * k by omega, show (4 + 3 * (k : Int) + 1).toNat = 4 + 3 * k + 1 by omega, show (4 + 3 * (k : Int) + 2).toNat = 4 + 3 * k + 2 by omega] at a3
    exact a3
theorem Pg_dec (hP : Pg d r) (hO : OkD d) {x y i z : Int} (g : inG d x y) (i1 : 0 ≤ i) (i2 : i < cn d x y) : Pg (ddec d x y i z) (upZ r (cel x y + 1 + 4 * i + 3).toNat z) := by
  have g9 := hO.g9 g
  have hcn := hO.cn g
  obtain ⟨hP, h2⟩ := hP
  have hcl := cel_in g9
  refine ⟨⟨?_, ?_, ?_, ?_, ?_, ?_, ?_⟩, ?_⟩
  · rw [upZ_ne _ _ (by omega), ddec_lo (by omega)]; exact hP.w
  · rw [upZ_ne _ _ (by omega), ddec_lo (by omega)]; exact hP.v
  · rw [upZ_ne _ _ (by omega), ddec_lo (by omega)]; exact hP.g
  · intro i hi
    rw [upZ_ne _ _ (by omega), upZ_ne _ _ (by omega), upZ_ne _ _ (by omega), ddec_lo (by omega), ddec_lo (by omega), ddec_lo (by omega)]
    exact hP.p i hi
  · intro x' y' g'
    rw [inG_row (ddec_lo (by omega))] at g'
    have g9' := hO.g9 g'
    rw [cn_row (ddec_lo (by omega)), upZ_ne _ _ (by unfold cel; omega)]
    exact hP.c x' y' g'
  · intro x' y' x1 x2 y1 y2 g'
    rw [inG_row (ddec_lo (by omega))] at g'
    rw [upZ_ne _ _ (by unfold cel; omega)]
    exact hP.o x' y' x1 x2 y1 y2 g'
  · intro x' y' j g' j1 j2
    rw [inG_row (ddec_lo (by omega))] at g'
    rw [cn_row (ddec_lo (by omega))] at j2
    have g9' := hO.g9 g'
    have hcn' := hO.cn g'
    rw [upZ_ne _ _ (by unfold cel; omega), upZ_ne _ _ (by unfold cel; omega), upZ_ne _ _ (by unfold cel; omega), ddec_lo (by omega), ddec_lo (by omega), ddec_lo (by omega), ddec_8]
    obtain ⟨m5, m6, m7, m8⟩ := hP.m x' y' j g' j1 j2
    refine ⟨m5, m6, m7, ?_⟩
    by_cases c : x' = x ∧ y' = y ∧ j = i
    · obtain ⟨rfl, rfl, rfl⟩ := c
      rw [upZ_self, upZ_self]
    · rw [upZ_ne _ _ (pl_ne g9 g9' i1 (by omega) j1 (by omega) c), upZ_ne _ _ (by unfold cel; omega)]
      exact m8
  · rw [upZ_ne _ _ (by omega), ddec_lo (by omega)]; exact h2
/-- the cells of the page are the same -/
theorem Pg_cells {d d' : Nat → Nat → Int} {r r' : Nat → Int} (hP : PgM d r) (hO : OkD d) (hg : ∀ x y, inG d' x y ↔ inG d x y) (hr : ∀ i, 3 < i → d' i = d i) (hc : ∀ j, 10 ≤ j → r' j = r j) (w : r' 0 = d' 0 0) (v : r' 1 = d' 0 1) (m : r' 2 = d' 0 2) (g : r' 3 = d' 0 3) (p : ∀ k : Nat, k < 2 → r' (4 + 3 * k) = d' 1 k ∧ r' (4 + 3 * k + 1) = d' 2 k ∧ r' (4 + 3 * k + 2) = d' 3 k) : Pg d' r' := by
  refine ⟨⟨w, v, g, p, fun x y g' => ?_, fun x y x1 x2 y1 y2 g' => ?_, fun x y i g' i1 i2 => ?_⟩, m⟩
  · have g2 := (hg x y).mp g'
    have := cel_in (hO.g9 g2)
    rw [hc _ (by omega), cn_row (hr 4 (by omega))]
    exact hP.c x y g2
  · have := cel_in ⟨x1, x2, y1, y2⟩
    rw [hc _ (by omega)]
    exact hP.o x y x1 x2 y1 y2 (fun z => g' ((hg x y).mpr z))
  · have g2 := (hg x y).mp g'
    have := cel_in (hO.g9 g2)
    rw [cn_row (hr 4 (by omega))] at i2
    rw [hc _ (by omega), hc _ (by omega), hc _ (by omega), hc _ (by omega), hr 5 (by omega), hr 6 (by omega), hr 7 (by omega), hr 8 (by omega)]
    exact hP.m x y i g2 i1 i2
theorem Pg_let (hP : Pg d r) (hO : OkD d) {k : Nat} (hk : k < 2) {u v w : Int} : Pg (dlet d k u v w) (plet r k u v w) := by
  refine Pg_cells hP.1 hO (fun x y => inG_row (dlet_ot (by omega))) (fun i hi => dlet_ot (by omega)) (fun j hj => plet_out (by omega)) ?_ ?_ ?_ ?_ ?_
  · rw [plet_out (by omega), dlet_ot (by omega)]; exact hP.1.w
  · rw [plet_out (by omega), dlet_ot (by omega)]; exact hP.1.v
  · rw [plet_out (by omega), dlet_ot (by omega)]; exact hP.2
  · rw [plet_out (by omega), dlet_ot (by omega)]; exact hP.1.g
  · intro j hj
    rw [dlet_1, dlet_2, dlet_3]
    by_cases c : j = k
    · subst c
      rw [upZ_self, upZ_self, upZ_self]
      unfold plet
      rw [upZ_ne _ _ (by omega), upZ_ne _ _ (by omega), upZ_self, upZ_ne _ _ (by omega), upZ_self, upZ_self]
      exact ⟨rfl, rfl, rfl⟩
    · rw [upZ_ne _ _ c, upZ_ne _ _ c, upZ_ne _ _ c, plet_out (by omega), plet_out (by omega), plet_out (by omega)]
      exact hP.1.p j hj
theorem Pg_margin (hP : Pg d r) (hO : OkD d) {m : Int} : Pg (dput d 0 2 m) (upZ r 2 m) := by
  refine Pg_cells hP.1 hO (d0_in (by omega)) (fun i hi => dput_ne (by omega)) (fun j hj => upZ_ne _ _ (by omega)) ?_ ?_ ?_ ?_ ?_
  · rw [upZ_ne _ _ (by omega), dput_self, upZ_ne _ _ (by omega)]; exact hP.1.w
  · rw [upZ_ne _ _ (by omega), dput_self, upZ_ne _ _ (by omega)]; exact hP.1.v
  · rw [upZ_self, dput_self, upZ_self]
  · rw [upZ_ne _ _ (by omega), dput_self, upZ_ne _ _ (by omega)]; exact hP.1.g
  · intro j hj
    rw [upZ_ne _ _ (by omega), upZ_ne _ _ (by omega), upZ_ne _ _ (by omega), dput_ne (by omega), dput_ne (by omega), dput_ne (by omega)]
    exact hP.1.p j hj
theorem Pg_gap (hP : Pg d r) (hO : OkD d) {m : Int} : Pg (dput d 0 3 m) (upZ r 3 m) := by
  refine Pg_cells hP.1 hO (d0_in (by omega)) (fun i hi => dput_ne (by omega)) (fun j hj => upZ_ne _ _ (by omega)) ?_ ?_ ?_ ?_ ?_
  · rw [upZ_ne _ _ (by omega), dput_self, upZ_ne _ _ (by omega)]; exact hP.1.w
  · rw [upZ_ne _ _ (by omega), dput_self, upZ_ne _ _ (by omega)]; exact hP.1.v
  · rw [upZ_ne _ _ (by omega), dput_self, upZ_ne _ _ (by omega)]; exact hP.2
  · rw [upZ_self, dput_self, upZ_self]
  · intro j hj
    rw [upZ_ne _ _ (by omega), upZ_ne _ _ (by omega), upZ_ne _ _ (by omega), dput_ne (by omega), dput_ne (by omega), dput_ne (by omega)]
    exact hP.1.p j hj
end Pw
