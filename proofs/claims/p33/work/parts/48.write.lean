/-! what writes a Sheet -/
def dput (d : Nat → Nat → Int) (r k : Nat) (v : Int) : Nat → Nat → Int := rowup d r (upZ (d r) k v)
theorem dput_ne {d : Nat → Nat → Int} {r k i : Nat} {v : Int} (h : i ≠ r) : dput d r k v i = d i := rowup_ne d _ h
theorem dput_self {d : Nat → Nat → Int} {r k : Nat} {v : Int} : dput d r k v r = upZ (d r) k v := rowup_self d _ _
theorem upZ_eq (f : Nat → Int) {k j : Nat} (v : Int) (h : j = k) : upZ f k v j = v := if_pos h
def offS (b : Nat) (h h' : zH) : Prop := ∀ q, q < b ∨ b + 16 < q → h' q = h q
theorem offS.refl (b : Nat) (h : zH) : offS b h h := fun _ _ => rfl
theorem offS.trans {b : Nat} {h h1 h2 : zH} (a : offS b h h1) (c : offS b h1 h2) : offS b h h2 := fun q hq => (c q hq).trans (a q hq)
def dmark (d : Nat → Nat → Int) (p : Nat) (s k w e : Int) : Nat → Nat → Int := dput (dput (dput (dput d 5 p s) 6 p k) 7 p w) 8 p e
def dadd (d : Nat → Nat → Int) (x y s k w : Int) : Nat → Nat → Int := dmark (dput d 4 (9 * x + y).toNat (cn d x y + 1)) (pl x y (cn d x y)) s k w (-9)
def dmv (d : Nat → Nat → Int) (x y i : Int) : Nat → Nat → Int := if i = 0 then dmark d (pl x y 0) (d 5 (pl x y 1)) (d 6 (pl x y 1)) (d 7 (pl x y 1)) (d 8 (pl x y 1)) else d
def drem (d : Nat → Nat → Int) (x y i : Int) : Nat → Nat → Int := dput (dmv d x y i) 4 (9 * x + y).toNat (cn d x y - 1)
def dlet (d : Nat → Nat → Int) (k : Nat) (a b c : Int) : Nat → Nat → Int := dput (dput (dput d 1 k a) 2 k b) 3 k c
theorem dmark_lo {d : Nat → Nat → Int} {p : Nat} {s k w e : Int} {r : Nat} (h : r < 5) : dmark d p s k w e r = d r := by
  unfold dmark
  rw [dput_ne (by omega), dput_ne (by omega), dput_ne (by omega), dput_ne (by omega)]
section Wr
variable {T : zT} {hz h : zH} {b : Nat} {d : Nat → Nat → Int}
theorem sh_put' (hS : ShAt T h b d) {r : Nat} (h1 : 1 ≤ r) (h8 : r ≤ 8) {i v : Int} (g1 : 0 ≤ i) (g2 : i < sz r) : ∃ h', FX1_put T (b + (2 * r - 1)) (iZ i) (iZ v) h = some h' ∧ ShAt T h' b (dput d r i.toNat v) ∧ offS b h h' := by
  obtain ⟨h', e1, e2, e3⟩ := sh_put (v := v) hS h1 h8 g1 g2
  exact ⟨h', e1, e2, fun q hq => e3 q (by omega)⟩
theorem sh_set0 (hS : ShAt T h b d) {k : Nat} (hk : k < 4) (v : Int) : ∃ h', zpv h b 3 k (.int (iZ v)) = some h' ∧ ShAt T h' b (dput d 0 k v) ∧ offS b h h' := by
  obtain ⟨h', e1, e2, e3⟩ := hS.put0 hk v
  exact ⟨h', e1, e2, fun q hq => e3 q (by omega)⟩
theorem putMark_eq (hS : ShAt T h b d) {p s k w e : Int} (p1 : 0 ≤ p) (p2 : p < 162) : ∃ h', FX3_putMark T b (iZ p) (iZ s) (iZ k) (iZ w) (iZ e) h = some h' ∧ ShAt T h' b (dmark d p.toNat s k w e) ∧ offS b h h' := by
  obtain ⟨h1, e1, s1, f1⟩ := sh_put' (v := s) hS (r := 5) (by omega) (by omega) p1 p2
  obtain ⟨h2, e2, s2, f2⟩ := sh_put' (v := k) s1 (r := 6) (by omega) (by omega) p1 p2
  obtain ⟨h3, e3, s3, f3⟩ := sh_put' (v := w) s2 (r := 7) (by omega) (by omega) p1 p2
  obtain ⟨h4, e4, s4, f4⟩ := sh_put' (v := e) s3 (r := 8) (by omega) (by omega) p1 p2
  refine ⟨h4, ?_, s4, ((f1.trans f2).trans f3).trans f4⟩
  unfold FX3_putMark
  simp only [sh_zo hS, zsb, sh_r5 hS, e1, sh_r6 s1, e2, sh_r7 s2, e3, sh_r8 s3, e4]
theorem putLetter_eq (hS : ShAt T h b d) {k : Int} {u v w : Int} (p1 : 0 ≤ k) (p2 : k < 2) : ∃ h', FX3_putLetter T b (iZ k) (iZ u) (iZ v) (iZ w) h = some h' ∧ ShAt T h' b (dlet d k.toNat u v w) ∧ offS b h h' := by
  obtain ⟨h1, e1, s1, f1⟩ := sh_put' (v := u) hS (r := 1) (by omega) (by omega) p1 p2
  obtain ⟨h2, e2, s2, f2⟩ := sh_put' (v := v) s1 (r := 2) (by omega) (by omega) p1 p2
  obtain ⟨h3, e3, s3, f3⟩ := sh_put' (v := w) s2 (r := 3) (by omega) (by omega) p1 p2
  refine ⟨h3, ?_, s3, (f1.trans f2).trans f3⟩
  unfold FX3_putLetter
  simp only [sh_zo hS, zsb, sh_r1 hS, e1, sh_r2 s1, e2, sh_r3 s2, e3]
theorem putPen_eq (hS : ShAt T h b d) {k : Int} {u v : Int} (p1 : 0 ≤ k) (p2 : k < 2) : ∃ h', FX3_putPen T b (iZ k) (iZ u) (iZ v) h = some h' ∧ ShAt T h' b (dput (dput d 1 k.toNat u) 2 k.toNat v) ∧ offS b h h' := by
  obtain ⟨h1, e1, s1, f1⟩ := sh_put' (v := u) hS (r := 1) (by omega) (by omega) p1 p2
  obtain ⟨h2, e2, s2, f2⟩ := sh_put' (v := v) s1 (r := 2) (by omega) (by omega) p1 p2
  refine ⟨h2, ?_, s2, f1.trans f2⟩
  unfold FX3_putPen
  simp only [sh_zo hS, zsb, sh_r1 hS, e1, sh_r2 s1, e2]
theorem putSize_eq (hS : ShAt T h b d) (u v : Int) : ∃ h', FX3_putSize T b (iZ u) (iZ v) h = some h' ∧ ShAt T h' b (dput (dput d 0 0 u) 0 1 v) ∧ offS b h h' := by
  obtain ⟨h1, e1, s1, f1⟩ := sh_set0 hS (k := 0) (by omega) u
  obtain ⟨h2, e2, s2, f2⟩ := sh_set0 s1 (k := 1) (by omega) v
  refine ⟨h2, ?_, s2, f1.trans f2⟩
  unfold FX3_putSize
  simp only [sh_zo hS, zsb, e1, e2]
theorem addMark_eq (hS : ShAt T h b d) (hO : OkD d) {x y s k w : Int} (g : inG d x y) (hc : cn d x y < 2) : ∃ h', FX3_addMark T b (iZ x) (iZ y) (iZ s) (iZ k) (iZ w) h = some h' ∧ ShAt T h' b (dadd d x y s k w) ∧ offS b h h' := by
  have g9 := hO.g9 g
  have hcn := hO.cn g
  obtain ⟨h1, e1, s1, f1⟩ := sh_put' (v := cn d x y + 1) hS (r := 4) (i := 9 * x + y) (by omega) (by omega) (by omega) (by show _ < ((81 : Nat) : Int); omega)
  obtain ⟨h2, e2, s2, f2⟩ := putMark_eq s1 (p := 2 * (9 * x + y) + cn d x y) (s := s) (k := k) (w := w) (e := -9) (by omega) (by omega)
  refine ⟨h2, ?_, s2, f1.trans f2⟩
  have hm := marksIn_t hS hO g
  unfold FX3_addMark
  simp (disch := omega) only [sh_zo hS, zsb, zJ, hasRoom_t hS hO g hc, q0, iZ_eq, if_neg, hm, sh_r4 hS, cellOf_eq, q1, iZ_add, e1, placeOf_eq, qm9, e2]
theorem marksIn_mark {h1 : zH} {p : Nat} {s k w e : Int} (s1 : ShAt T h1 b (dmark d p s k w e)) (hO : OkD d) {x y : Int} (g : inG d x y) : FX3_marksIn T b (iZ x) (iZ y) h1 = some (iZ (cn d x y)) := by
  have g9 := hO.g9 g
  have hcn := hO.cn g
  have hh : FX3_hasCell T b (iZ x) (iZ y) h1 = some (iZ 1) := by
    obtain ⟨⟨o1, o2, o3, o4, -⟩, -⟩ := hO
    obtain ⟨g1, g2, g3, g4⟩ := g
    have z0 : zgi h1 b 3 0 = some (iZ (d 0 0)) := by have z := sh_g0 s1; rw [dmark_lo (by omega)] at z; exact z
    have z1 : zgi h1 b 3 1 = some (iZ (d 0 1)) := by have z := sh_g1 s1; rw [dmark_lo (by omega)] at z; exact z
    unfold FX3_hasCell
    simp (disch := omega) only [sh_zo s1, zsb, zJ, z0, z1, q0, q1, iZ_lt, iZ_le, iZ_eq, if_pos, if_neg, or_true, true_or, if_true]
  have z4 : FX1_at T (b + 7) (iZ (9 * x + y)) h1 = some (iZ (cn d x y)) := by have z := at_in (sh_n4 s1) (i := 9 * x + y) (by omega) (by omega) (by omega); rw [dmark_lo (by omega)] at z; exact z
  unfold FX3_marksIn
  simp (disch := omega) only [sh_zo s1, zsb, zJ, hh, q0, iZ_eq, if_neg, sh_r4 s1, cellOf_eq, z4]
theorem removeMark_eq (hS : ShAt T h b d) (hO : OkD d) {x y i : Int} (g : inG d x y) (i1 : 0 ≤ i) (i2 : i < cn d x y) : ∃ h', FX3_removeMark T b (iZ x) (iZ y) (iZ i) h = some h' ∧ ShAt T h' b (drem d x y i) ∧ offS b h h' := by
  have g9 := hO.g9 g
  have hcn := hO.cn g
  have hk := hasMark_t hS hO g i1 i2
  by_cases c : i = 0
  · obtain ⟨h1, e1, s1, f1⟩ := putMark_eq hS (p := 2 * (9 * x + y) + 0) (s := d 5 (pl x y 1)) (k := d 6 (pl x y 1)) (w := d 7 (pl x y 1)) (e := d 8 (pl x y 1)) (by omega) (by omega)
    have ep : (2 * (9 * x + y) + 0).toNat = pl x y 0 := rfl
    rw [ep] at s1
    obtain ⟨h2, e2, s2, f2⟩ := sh_put' (v := cn d x y - 1) s1 (r := 4) (i := 9 * x + y) (by omega) (by omega) (by omega) (by show _ < ((81 : Nat) : Int); omega)
    have a5 : FX1_at T (b + 9) (iZ (2 * (9 * x + y) + 1)) h = some (iZ (d 5 (pl x y 1))) := at_in (sh_n5 hS) (by omega) (by omega) (by omega)
    have a6 : FX1_at T (b + 11) (iZ (2 * (9 * x + y) + 1)) h = some (iZ (d 6 (pl x y 1))) := at_in (sh_n6 hS) (by omega) (by omega) (by omega)
    have a7 : FX1_at T (b + 13) (iZ (2 * (9 * x + y) + 1)) h = some (iZ (d 7 (pl x y 1))) := at_in (sh_n7 hS) (by omega) (by omega) (by omega)
    have a8 : FX1_at T (b + 15) (iZ (2 * (9 * x + y) + 1)) h = some (iZ (d 8 (pl x y 1))) := at_in (sh_n8 hS) (by omega) (by omega) (by omega)
    have hm := marksIn_mark s1 hO g
    refine ⟨h2, ?_, ?_, f1.trans f2⟩
    · unfold FX3_removeMark
      simp (disch := omega) only [sh_zo hS, zsb, zJ, hk, q0, iZ_eq, if_neg, if_pos, placeOf_eq, q1, sh_r5 hS, sh_r6 hS, sh_r7 hS, sh_r8 hS, a5, a6, a7, a8, e1, sh_r4 s1, cellOf_eq, hm, iZ_sub, e2]
    · unfold drem dmv
      rw [if_pos c]
      exact s2
  · obtain ⟨h2, e2, s2, f2⟩ := sh_put' (v := cn d x y - 1) hS (r := 4) (i := 9 * x + y) (by omega) (by omega) (by omega) (by show _ < ((81 : Nat) : Int); omega)
    refine ⟨h2, ?_, ?_, f2⟩
    · unfold FX3_removeMark
      simp (disch := omega) only [sh_zo hS, zsb, zJ, hk, q0, iZ_eq, if_neg, q1, sh_r4 hS, cellOf_eq, marksIn_t hS hO g, iZ_sub, e2]
    · unfold drem dmv
      rw [if_neg c]
      exact s2
theorem putDecision_eq (hS : ShAt T h b d) (hO : OkD d) {x y i z : Int} (g : inG d x y) (i1 : 0 ≤ i) (i2 : i < cn d x y) (z1 : -2147483648 ≤ z) (z2 : z < 2147483648) : ∃ h', FX3_putDecision T b (iZ x) (iZ y) (iZ i) (iZ z) h = some h' ∧ ShAt T h' b (dput d 8 (pl x y i) (if 0 ≤ z ∧ z < 2 then z else -9)) ∧ offS b h h' := by
  have g9 := hO.g9 g
  have hcn := hO.cn g
  have hk := hasMark_t hS hO g i1 i2
  obtain ⟨h2, e2, s2, f2⟩ := sh_put' (v := if 0 ≤ z ∧ z < 2 then z else -9) hS (r := 8) (i := 2 * (9 * x + y) + i) (by omega) (by omega) (by omega) (by show _ < ((162 : Nat) : Int); omega)
  refine ⟨h2, ?_, s2, f2⟩
  unfold FX3_putDecision
  simp (disch := omega) only [sh_zo hS, zsb, zJ, hk, q0, iZ_eq, if_neg, sh_r8 hS, placeOf_eq, letOr z1 z2, e2]
theorem makeNew_eq (hS : ShAt T h b d) : ∃ h' d', FX3_makeNew T b h = some h' ∧ ShAt T h' b d' ∧ offS b h h' ∧ (d' 0 0 = 6 ∧ d' 0 1 = 6 ∧ d' 0 2 = 2 ∧ d' 0 3 = 2 ∧ d' 1 0 = 0 ∧ d' 2 0 = 2 ∧ d' 3 0 = 0 ∧ d' 1 1 = 3 ∧ d' 2 1 = 6 ∧ d' 3 1 = 1) ∧ ∀ j, j < 81 → d' 4 j = 0 := by
  obtain ⟨h1, e1, s1, f1⟩ := putSize_eq hS 6 6
  obtain ⟨h2, e2, s2, f2⟩ := sh_set0 s1 (k := 2) (by omega) 2
  obtain ⟨h3, e3, s3, f3⟩ := sh_set0 s2 (k := 3) (by omega) 2
  obtain ⟨h4, e4, s4, f4⟩ := putLetter_eq s3 (k := 0) (u := 0) (v := 2) (w := 0) (by omega) (by omega)
  obtain ⟨h5, e5, s5, f5⟩ := putLetter_eq s4 (k := 1) (u := 3) (v := 6) (w := 1) (by omega) (by omega)
  obtain ⟨h6, f', e6, n6, v6, k6⟩ := fill_ok (s5.2 4 (by omega) (by omega)) (by decide) 0
  refine ⟨h6, _, ?_, s5.row (r := 4) (by omega) (by omega) n6 (fun q hq => k6 q (by omega)), ?_, ⟨rfl, rfl, rfl, rfl, rfl, rfl, rfl, rfl, rfl, rfl⟩, fun j hj => v6 j hj⟩
  · unfold FX3_makeNew
    simp only [sh_zo hS, zsb, q0, q1, q2, q3, q6, e1, e2, e3, e4, e5, sh_r4 s5, e6]
  · exact ((((f1.trans f2).trans f3).trans f4).trans f5).trans (fun q hq => k6 q (by omega))
end Wr
