/-! a decision, a letter's pen, margin and gap -/
theorem cn_row {d d' : Nat → Nat → Int} (h : d' 4 = d 4) (x y : Int) : cn d' x y = cn d x y := by unfold cn; rw [h]
def ddec (d : Nat → Nat → Int) (x y i z : Int) : Nat → Nat → Int := dput d 8 (pl x y i) z
section Dc
variable {d : Nat → Nat → Int} {x y i z : Int}
theorem ddec_lo {r : Nat} (h : r < 8) : ddec d x y i z r = d r := by
  unfold ddec
  rw [dput_ne (by omega)]
theorem ddec_8 {q : Nat} : ddec d x y i z 8 q = upZ (d 8) (pl x y i) z q := by
  unfold ddec
  rw [dput_self]
theorem OkD_dec (hO : OkD d) (g : inG d x y) (i1 : 0 ≤ i) (i2 : i < cn d x y) (hz : z = -9 ∨ ((z = 0 ∨ z = 1) ∧ dec d x y (1 - i) ≠ z)) : OkD (ddec d x y i z) := by
  have g9 := hO.g9 g
  have hcn := hO.cn g
  refine ⟨?_, ?_, ?_, ?_⟩
  · rw [ddec_lo (by omega)]; exact hO.1
  · have := hO.2.1
    unfold lwOk at this ⊢
    rw [ddec_lo (by omega), ddec_lo (by omega), ddec_lo (by omega)]; exact this
  · have := hO.2.2.1
    unfold lwOk at this ⊢
    rw [ddec_lo (by omega), ddec_lo (by omega), ddec_lo (by omega)]; exact this
  · intro x' y' g'
    rw [inG_row (ddec_lo (by omega))] at g'
    have g9' := hO.g9 g'
    have hcn' := hO.cn g'
    have hk := hO.2.2.2 x' y' g'
    rw [cn_row (ddec_lo (by omega))]
    refine ⟨hk.1, hk.2.1, fun j j1 j2 => ?_, fun h2 => ?_⟩
    · have h9 := hk.2.2.1 j j1 j2
      unfold mkOk at h9 ⊢
      rw [ddec_lo (by omega), ddec_lo (by omega), ddec_lo (by omega), ddec_8]
      by_cases c : x' = x ∧ y' = y ∧ j = i
      · obtain ⟨rfl, rfl, rfl⟩ := c
        rw [upZ_self]
        omega
      · rw [upZ_ne _ _ (pl_ne g9 g9' i1 (by omega) j1 (by omega) c)]
        exact h9
    · have h9 := hk.2.2.2 h2
      rw [ddec_8, ddec_8]
      by_cases c : x' = x ∧ y' = y
      · obtain ⟨rfl, rfl⟩ := c
        rcases (show i = 0 ∨ i = 1 by omega) with rfl | rfl
        · rw [upZ_self, upZ_ne _ _ (pl_ne g9 g9 (i := 0) (i' := 1) (by omega) (by omega) (by omega) (by omega) (by omega))]
          rw [show (1 : Int) - 0 = 1 from rfl, dec_lt (by omega)] at hz
          omega
        · rw [upZ_self, upZ_ne _ _ (pl_ne g9 g9 (i := 1) (i' := 0) (by omega) (by omega) (by omega) (by omega) (by omega))]
          rw [show (1 : Int) - 1 = 0 from rfl, dec_lt (by omega)] at hz
          omega
      · rw [upZ_ne _ _ (pl_ne g9 g9' i1 (by omega) (i' := 0) (by omega) (by omega) (fun w => c ⟨w.1, w.2.1⟩)), upZ_ne _ _ (pl_ne g9 g9' i1 (by omega) (i' := 1) (by omega) (by omega) (fun w => c ⟨w.1, w.2.1⟩))]
        exact h9
end Dc
section Dl
variable {d : Nat → Nat → Int} {k : Nat} {u v w : Int}
theorem dlet_ot {r : Nat} (h : r = 0 ∨ 3 < r) : dlet d k u v w r = d r := by
  unfold dlet
  rw [dput_ne (by omega), dput_ne (by omega), dput_ne (by omega)]
theorem dlet_1 : dlet d k u v w 1 = upZ (d 1) k u := by
  unfold dlet
  rw [dput_ne (by omega), dput_ne (by omega), dput_self]
theorem dlet_2 : dlet d k u v w 2 = upZ (d 2) k v := by
  unfold dlet
  rw [dput_ne (by omega), dput_self, dput_ne (by omega)]
theorem dlet_3 : dlet d k u v w 3 = upZ (d 3) k w := by
  unfold dlet
  rw [dput_self, dput_ne (by omega), dput_ne (by omega)]
theorem lw_let {j : Nat} (h : lwOk d j) (hk : j = k → 0 ≤ u ∧ u ≤ 3 ∧ 0 ≤ v ∧ v ≤ 8 ∧ 0 ≤ w ∧ w ≤ 1) : lwOk (dlet d k u v w) j := by
  unfold lwOk at h ⊢
  rw [dlet_1, dlet_2, dlet_3]
  by_cases c : j = k
  · rw [upZ_eq _ _ c, upZ_eq _ _ c, upZ_eq _ _ c]; exact hk c
  · rw [upZ_ne _ _ c, upZ_ne _ _ c, upZ_ne _ _ c]; exact h
/-- the rows of the cells are the same -/
theorem OkD_cells {d d' : Nat → Nat → Int} (hO : OkD d) (hg : ∀ x y, inG d' x y ↔ inG d x y) (h0 : 1 ≤ d' 0 0 ∧ d' 0 0 ≤ 9 ∧ 1 ≤ d' 0 1 ∧ d' 0 1 ≤ 9 ∧ 0 ≤ d' 0 2 ∧ d' 0 2 ≤ 9 ∧ 1 ≤ d' 0 3 ∧ d' 0 3 ≤ 3) (l0 : lwOk d' 0) (l1 : lwOk d' 1) (hr : ∀ r, 3 < r → d' r = d r) : OkD d' := by
  refine ⟨h0, l0, l1, fun x y g => ?_⟩
  have hk := hO.2.2.2 x y ((hg x y).mp g)
  unfold mkOk at hk ⊢
  rw [cn_row (hr 4 (by omega)), hr 5 (by omega), hr 6 (by omega), hr 7 (by omega), hr 8 (by omega)]
  exact hk
theorem OkD_let (hO : OkD d) (hu : 0 ≤ u ∧ u ≤ 3 ∧ 0 ≤ v ∧ v ≤ 8 ∧ 0 ≤ w ∧ w ≤ 1) : OkD (dlet d k u v w) :=
  OkD_cells hO (fun x y => inG_row (dlet_ot (by omega))) (by rw [dlet_ot (by omega)]; exact hO.1) (lw_let hO.2.1 (fun _ => hu)) (lw_let hO.2.2.1 (fun _ => hu)) (fun r hr => dlet_ot (by omega))
theorem d0_in {k : Nat} {m : Int} (hk : 2 ≤ k) (x y : Int) : inG (dput d 0 k m) x y ↔ inG d x y := by
  unfold inG
  rw [dput_self, upZ_ne _ _ (by omega), upZ_ne _ _ (by omega)]
theorem OkD_margin {m : Int} (hO : OkD d) (h1 : 0 ≤ m) (h2 : m ≤ 9) : OkD (dput d 0 2 m) := by
  have h0 := hO.1
  refine OkD_cells hO (d0_in (by omega)) ?_ ?_ ?_ (fun r hr => dput_ne (by omega))
  · rw [dput_self, upZ_ne _ _ (by omega), upZ_ne _ _ (by omega), upZ_self, upZ_ne _ _ (by omega)]
    omega
  · have := hO.2.1
    unfold lwOk at this ⊢
    rw [dput_ne (by omega), dput_ne (by omega), dput_ne (by omega)]; exact this
  · have := hO.2.2.1
    unfold lwOk at this ⊢
    rw [dput_ne (by omega), dput_ne (by omega), dput_ne (by omega)]; exact this
theorem OkD_gap {m : Int} (hO : OkD d) (h1 : 1 ≤ m) (h2 : m ≤ 3) : OkD (dput d 0 3 m) := by
  have h0 := hO.1
  refine OkD_cells hO (d0_in (by omega)) ?_ ?_ ?_ (fun r hr => dput_ne (by omega))
  · rw [dput_self, upZ_ne _ _ (by omega), upZ_ne _ _ (by omega), upZ_self, upZ_ne _ _ (by omega)]
    omega
  · have := hO.2.1
    unfold lwOk at this ⊢
    rw [dput_ne (by omega), dput_ne (by omega), dput_ne (by omega)]; exact this
  · have := hO.2.2.1
    unfold lwOk at this ⊢
    rw [dput_ne (by omega), dput_ne (by omega), dput_ne (by omega)]; exact this
end Dl
section Pw
variable {T : zT} {hz h : zH} {a : Nat} {r : Nat → Int} {d : Nat → Nat → Int}
end Pw
