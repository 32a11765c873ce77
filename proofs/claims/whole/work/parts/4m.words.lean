/-! the reference lays the words of a letter: in step with the class -/
theorem wgo1_br (w : Nat → Nat → Int) (l p g : Int) : wgo1 w l p g 1 = w 1 ∧ wgo1 w l p g 2 = w 2 ∧ (((w 0 0 ≠ 0 ∧ l ≠ w 0 6 ∧ w 0 8 = 26) ∧ wgo1 w l p g 0 0 = w 0 0 ∧ wgo1 w l p g 0 5 = w 0 5 - 1 ∧ wgo1 w l p g 3 = w 3) ∨ (¬ (w 0 0 ≠ 0 ∧ l ≠ w 0 6 ∧ w 0 8 = 26) ∧ (w 0 0 ≠ 0 ∧ l = w 0 6 ∧ p - w 0 7 - 1 < g) ∧ wgo1 w l p g 0 0 = w 0 0 ∧ wgo1 w l p g 0 5 = w 0 5 ∧ wgo1 w l p g 3 = w 3) ∨ (¬ (w 0 0 ≠ 0 ∧ l ≠ w 0 6 ∧ w 0 8 = 26) ∧ ¬ (w 0 0 ≠ 0 ∧ l = w 0 6 ∧ p - w 0 7 - 1 < g) ∧ wgo1 w l p g 0 0 = w 0 0 + 1 ∧ wgo1 w l p g 0 5 = w 0 5 ∧ wgo1 w l p g 3 = upZ (w 3) (w 0 0).toNat (w 0 5))) := by
  unfold wgo1
  by_cases c1 : w 0 0 ≠ 0 ∧ l ≠ w 0 6 ∧ w 0 8 = 26
  · rw [if_pos c1]
    exact ⟨rfl, rfl, Or.inl ⟨c1, rfl, rfl, rfl⟩⟩
  · rw [if_neg c1]
    by_cases c2 : w 0 0 ≠ 0 ∧ l = w 0 6 ∧ p - w 0 7 - 1 < g
    · rw [if_pos c2]
      exact ⟨rfl, rfl, Or.inr (Or.inl ⟨c1, c2, rfl, rfl, rfl⟩)⟩
    · rw [if_neg c2]
      exact ⟨rfl, rfl, Or.inr (Or.inr ⟨c1, c2, rfl, rfl, rfl⟩)⟩
theorem wst_r {w : Nat → Nat → Int} {l p g s : Int} {c : Nat} : wst w c l p g s 1 = upZ (wgo1 w l p g 1) c (wgo1 w l p g 0 0 - 1) ∧ wst w c l p g s 2 = upZ (wgo1 w l p g 2) (wgo1 w l p g 0 5).toNat s ∧ wst w c l p g s 3 = wgo1 w l p g 3 := ⟨rfl, rfl, rfl⟩
def Lk (w : Nat → Nat → Int) (v bg sg wo : Nat → Int) (go lp l : Int) : Prop := (v 15 = w 0 0 ∧ v 16 + go = w 0 5 ∧ (go = 0 ∨ go = 1)) ∧ (∀ j : Nat, (j : Int) < w 0 0 → bg j = w 3 j) ∧ (∀ j : Nat, (j : Int) < v 16 → sg j = w 2 j) ∧ (∀ x y : Int, 0 ≤ x → x < 9 → 0 ≤ y → y < 9 → wo (9 * y + x).toNat = w 1 (9 * x + y).toNat) ∧ (w 0 0 ≠ 0 → w 2 (w 0 5 - 1).toNat = w 0 8) ∧ (lp = -9 → (go = 1 ↔ w 0 0 ≠ 0 ∧ w 0 8 = 26) ∧ (w 0 0 ≠ 0 → w 0 6 < l)) ∧ (lp ≠ -9 → go = 0 ∧ w 0 0 ≠ 0 ∧ w 0 6 = l ∧ w 0 7 = lp ∧ 0 ≤ lp ∧ lp < 9)
def nw (go lp p g : Int) : Int := if lp = -9 then 1 - go else if p - lp - 1 < g then 0 else 1
theorem Lk_step {w : Nat → Nat → Int} {v bg sg wo v' : Nat → Int} {go lp l p g s x y : Int} (hL : Lk w v bg sg wo go lp l) (hW : RdOk w 80) (p1 : 0 ≤ p) (p2 : p < 9) (x1 : 0 ≤ x) (x2 : x < 9) (y1 : 0 ≤ y) (y2 : y < 9) (v15 : v' 15 = v 15 + nw go lp p g) (v16 : v' 16 = v 16 + 1) : Lk (wst w (9 * x + y).toNat l p g s) v' (if nw go lp p g = 0 then bg else upZ bg (v 15).toNat (v 16)) (upZ sg (v 16).toNat s) (upZ wo (9 * y + x).toNat (v 15 + nw go lp p g - 1)) 0 p l := by
  obtain ⟨⟨a1, a2, a3⟩, a4, a5, a6, a7, a8, a9⟩ := hL
  obtain ⟨b1, b2, b3, b4, b5, b6, b7, b8, b9, b10, b11, b12, b13, b14⟩ := hW
  obtain ⟨z0, z1, z5, z6, z7, z8⟩ := wst_v (w := w) (l := l) (p := p) (g := g) (s := s) (c := (9 * x + y).toNat)
  obtain ⟨y1', y2', y3'⟩ := wst_r (w := w) (l := l) (p := p) (g := g) (s := s) (c := (9 * x + y).toNat)
  obtain ⟨u1, u2, u3⟩ := wgo1_br w l p g
  have key : wgo1 w l p g 0 0 = v 15 + nw go lp p g ∧ wgo1 w l p g 0 5 = v 16 ∧ ((nw go lp p g = 0 ∧ wgo1 w l p g 3 = w 3) ∨ (nw go lp p g = 1 ∧ wgo1 w l p g 3 = upZ (w 3) (w 0 0).toNat (w 0 5))) := by
    unfold nw
    by_cases cl : lp = -9
    · rw [if_pos cl]
      obtain ⟨c1, c2⟩ := a8 cl
      rcases u3 with ⟨t1, t2, t3, t4⟩ | ⟨t1, t2, t3, t4, t5⟩ | ⟨t1, t2, t3, t4, t5⟩
      · have : go = 1 := c1.mpr ⟨t1.1, t1.2.2⟩
        exact ⟨by omega, by omega, Or.inl ⟨by omega, t4⟩⟩
      · have := c2 t2.1
        omega
      · have : go ≠ 1 := fun z => by
          have h1 := c1.mp z
          have h2 := c2 h1.1
          exact t1 ⟨h1.1, by omega, h1.2⟩
        exact ⟨by omega, by omega, Or.inr ⟨by omega, t5⟩⟩
    · rw [if_neg cl]
      obtain ⟨c1, c2, c3, c4, c5, c6⟩ := a9 cl
      rcases u3 with ⟨t1, t2, t3, t4⟩ | ⟨t1, t2, t3, t4, t5⟩ | ⟨t1, t2, t3, t4, t5⟩
      · omega
      · rw [if_pos (by omega)]
        exact ⟨by omega, by omega, Or.inl ⟨rfl, t5⟩⟩
      · rw [if_neg (by omega)]
        exact ⟨by omega, by omega, Or.inr ⟨rfl, t5⟩⟩
  obtain ⟨k0, k5, k3⟩ := key
  have hv : 0 ≤ v 16 := by omega
  have hn : nw go lp p g = 0 ∨ nw go lp p g = 1 := by rcases k3 with k | k <;> omega
  refine ⟨⟨by rw [z0, k0, v15], by rw [z5, k5, v16]; omega, Or.inl rfl⟩, fun j hj => ?_, fun j hj => ?_, fun x' y' xa xb ya yb => ?_, fun _ => ?_, fun z => by omega, fun _ => ⟨rfl, ?_, z6, z7, p1, p2⟩⟩
  · rw [z0, k0] at hj
    rw [y3']
    rcases k3 with ⟨k, e⟩ | ⟨k, e⟩
    · rw [if_pos k, e]
      exact a4 j (by omega)
    · rw [if_neg (by omega), e, a1]
      by_cases cj : j = (w 0 0).toNat
      · rw [upZ_eq _ _ cj, upZ_eq _ _ cj]
        have : wgo1 w l p g 0 5 = w 0 5 := by
          rcases u3 with ⟨t1, t2, t3, t4⟩ | ⟨t1, t2, t3, t4, t5⟩ | ⟨t1, t2, t3, t4, t5⟩
          · omega
          · exact t4
          · exact t4
        omega
      · rw [upZ_ne _ _ cj, upZ_ne _ _ cj]
        exact a4 j (by omega)
  · rw [v16] at hj
    rw [y2', u2, k5]
    by_cases cj : j = (v 16).toNat
    · rw [upZ_eq _ _ cj, upZ_eq _ _ cj]
    · rw [upZ_ne _ _ cj, upZ_ne _ _ cj]
      exact a5 j (by omega)
  · rw [y1', u1, k0]
    by_cases cj : x' = x ∧ y' = y
    · rw [cj.1, cj.2, upZ_self, upZ_self]
    · rw [upZ_ne _ _ (by omega), upZ_ne _ _ (by omega)]
      exact a6 x' y' xa xb ya yb
  · rw [z5, z8, y2', k5, show v 16 + 1 - 1 = v 16 by omega, upZ_self]
  · rw [z0, k0]
    rcases k3 with ⟨k, e⟩ | ⟨k, e⟩
    · rcases u3 with ⟨t1, t2, t3, t4⟩ | ⟨t1, t2, t3, t4, t5⟩ | ⟨t1, t2, t3, t4, t5⟩ <;> omega
    · omega
def WH (T : zT) (k : zH) (m a : Nat) (r v bg sg wo : Nat → Int) : Prop := MoAt k m v ∧ Arr T k (m + 10) 82 bg ∧ Arr T k (m + 11) 81 sg ∧ Arr T k (m + 9) 81 wo ∧ Arr T k a 739 r
/-- what the laying of words may change -/
def offW (m : Nat) (k k' : zH) : Prop := ∀ q, q ≠ m → q ≠ m + 9 → q ≠ m + 10 → q ≠ m + 11 → k' q = k q
theorem offW.refl (m : Nat) (k : zH) : offW m k k := fun _ _ _ _ _ => rfl
theorem offW.trans {m : Nat} {h h1 h2 : zH} (a : offW m h h1) (c : offW m h1 h2) : offW m h h2 := fun q a1 a2 a3 a4 => (c q a1 a2 a3 a4).trans (a q a1 a2 a3 a4)
section Lw
variable {T : zT} {k : zH} {m a : Nat} {r v bg sg wo : Nat → Int}
theorem wh_set (H : WH T k m a r v bg sg wo) (ha : a ≠ m) {i : Nat} (hi : i = 15 ∨ i = 16) (x : Int) : ∃ k', zpv k m 7 i (.int (iZ x)) = some k' ∧ WH T k' m a r (upZ v i x) bg sg wo ∧ offW m k k' := by
  obtain ⟨h1, h2, h3, h4, h5⟩ := H
  obtain ⟨k', e, M, f⟩ := mo_set h1 (k := i) (by omega) x
  exact ⟨k', e, ⟨M, h2.kept (f _ (by omega)), h3.kept (f _ (by omega)), h4.kept (f _ (by omega)), h5.kept (f _ ha)⟩, fun q q1 _ _ _ => f q q1⟩
theorem wh_bg (H : WH T k m a r v bg sg wo) (ha : a ≠ m + 10) {i x : Int} (h0 : 0 ≤ i) (h1 : i < 82) : ∃ k', zas T k (m + 10) (iZ i) (iZ x) = some k' ∧ WH T k' m a r v (upZ bg i.toNat x) sg wo ∧ offW m k k' := by
  obtain ⟨c1, c2, c3, c4, c5⟩ := H
  obtain ⟨k', e, M, f⟩ := zas_Arr (v := x) c2 h0 (by omega) (by omega)
  exact ⟨k', e, ⟨mo_kept c1 (f _ (by omega)), M, c3.kept (f _ (by omega)), c4.kept (f _ (by omega)), c5.kept (f _ ha)⟩, fun q _ _ q1 _ => f q q1⟩
theorem wh_sg (H : WH T k m a r v bg sg wo) (ha : a ≠ m + 11) {i x : Int} (h0 : 0 ≤ i) (h1 : i < 81) : ∃ k', zas T k (m + 11) (iZ i) (iZ x) = some k' ∧ WH T k' m a r v bg (upZ sg i.toNat x) wo ∧ offW m k k' := by
  obtain ⟨c1, c2, c3, c4, c5⟩ := H
  obtain ⟨k', e, M, f⟩ := zas_Arr (v := x) c3 h0 (by omega) (by omega)
  exact ⟨k', e, ⟨mo_kept c1 (f _ (by omega)), c2.kept (f _ (by omega)), M, c4.kept (f _ (by omega)), c5.kept (f _ ha)⟩, fun q _ _ _ q1 => f q q1⟩
theorem wh_wo (H : WH T k m a r v bg sg wo) (ha : a ≠ m + 9) {i x : Int} (h0 : 0 ≤ i) (h1 : i < 81) : ∃ k', zas T k (m + 9) (iZ i) (iZ x) = some k' ∧ WH T k' m a r v bg sg (upZ wo i.toNat x) ∧ offW m k k' := by
  obtain ⟨c1, c2, c3, c4, c5⟩ := H
  obtain ⟨k', e, M, f⟩ := zas_Arr (v := x) c4 h0 (by omega) (by omega)
  exact ⟨k', e, ⟨mo_kept c1 (f _ (by omega)), c2.kept (f _ (by omega)), c3.kept (f _ (by omega)), M, c5.kept (f _ ha)⟩, fun q _ q1 _ _ => f q q1⟩
theorem beginWord_eq (H : WH T k m a r v bg sg wo) (n1 : a ≠ m) (n2 : a ≠ m + 10) (h0 : 0 ≤ v 15) (h1 : v 15 < 82) {n : Int} (hn : n = 0 ∨ n = 1) : ∃ k' v', FX7_beginWord T m (iZ n) k = some k' ∧ WH T k' m a r v' (if n = 0 then bg else upZ bg (v 15).toNat (v 16)) sg wo ∧ v' 15 = v 15 + n ∧ v' 16 = v 16 ∧ (∀ j, j < 15 → v' j = v j) ∧ offW m k k' := by
  unfold FX7_beginWord
  rw [mo_zo H.1, zsn]
  simp only [zJn]
  rcases hn with rfl | rfl
  · exact ⟨k, v, by rw [q0, if_pos rfl], by rw [if_pos rfl]; exact H, by omega, rfl, fun _ _ => rfl, offW.refl m k⟩
  · obtain ⟨k1, e1, H1, f1⟩ := wh_bg H n2 (x := v 16) h0 h1
    obtain ⟨k2, e2, H2, f2⟩ := wh_set H1 n1 (i := 15) (by omega) (v 15 + 1)
    refine ⟨k2, _, ?_, by rw [if_neg (by omega)]; exact H2, upZ_self _ _ _, upZ_ne _ _ (by omega), fun j hj => upZ_ne _ _ (by omega), f1.trans f2⟩
    rw [q0, if_neg (by decide), mo_r13 H.1, zsn, mo_g15 H.1, zsn, mo_g16 H.1, zsn, e1, zsn, mo_g15 H1.1, zsn, q1, iZ_add, e2, zsn]
end Lw
