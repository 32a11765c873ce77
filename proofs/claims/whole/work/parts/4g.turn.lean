/-! the reference turns a page by a quarter; the turned Sheet and the turned page are the same -/
def DoneP (d : Nat → Nat → Int) (r : Nat → Int) (x y : Int) : Prop := r (cel (tX d y) x).toNat = cn d x y ∧ ∀ i, 0 ≤ i → i < cn d x y → r (cel (tX d y) x + 1 + 4 * i).toNat = d 5 (pl x y i) ∧ r (cel (tX d y) x + 1 + 4 * i + 1).toNat = d 6 (pl x y i) ∧ r (cel (tX d y) x + 1 + 4 * i + 2).toNat = 8 - d 7 (pl x y i) ∧ r (cel (tX d y) x + 1 + 4 * i + 3).toNat = d 8 (pl x y i)
def TurnedR (d : Nat → Nat → Int) (r : Nat → Int) : Prop := (r 0 = d 0 1 ∧ r 1 = d 0 0 ∧ r 2 = d 0 2 ∧ r 3 = d 0 3) ∧ (∀ k, k < 2 → r (4 + 3 * k) = d 1 k ∧ r (4 + 3 * k + 1) = 8 - d 2 k ∧ r (4 + 3 * k + 2) = 1 - d 3 k) ∧ (∀ x y, inG d x y → DoneP d r x y) ∧ ∀ X Y, 0 ≤ X → X < 9 → 0 ≤ Y → Y < 9 → ¬ (X < d 0 1 ∧ Y < d 0 0) → r (cel X Y).toNat = 0
section Tp
variable {e d' : Nat → Nat → Int} {r : Nat → Int}
theorem turn_in (hT : TurnedD e d') {X Y : Int} (g : inG d' X Y) : inG e Y (e 0 1 - 1 - X) ∧ tX e (e 0 1 - 1 - X) = X := by
  obtain ⟨⟨a1, a2, a3, a4⟩, -⟩ := hT
  unfold inG at g ⊢
  unfold tX
  omega
theorem turn_cn (hT : TurnedD e d') {x y : Int} (g : inG e x y) : cn d' (tX e y) x = cn e x y := (hT.2.2 x y g).1
theorem OkD_turn (hO : OkD e) (hT : TurnedD e d') : OkD d' := by
  have h0 := hO.1
  obtain ⟨⟨a1, a2, a3, a4⟩, b, c⟩ := id hT
  refine ⟨by omega, ?_, ?_, fun X Y g => ?_⟩
  · obtain ⟨z1, z2, z3⟩ := b 0 (by omega)
    have := hO.2.1
    unfold lwOk at this ⊢
    omega
  · obtain ⟨z1, z2, z3⟩ := b 1 (by omega)
    have := hO.2.2.1
    unfold lwOk at this ⊢
    omega
  · obtain ⟨g2, et⟩ := turn_in hT g
    obtain ⟨k1, k2, k3, k4⟩ := hO.2.2.2 _ _ g2
    have ec := turn_cn hT g2
    obtain ⟨-, m⟩ := c _ _ g2
    rw [et] at ec m
    rw [ec]
    refine ⟨k1, k2, fun i i1 i2 => ?_, fun h2 => ?_⟩
    · obtain ⟨m5, m6, m7, m8⟩ := m i i1 i2
      have := k3 i i1 i2
      unfold mkOk at this ⊢
      rw [m5, m6, m7, m8]
      omega
    · obtain ⟨-, -, -, m8⟩ := m 0 (by omega) (by omega)
      obtain ⟨-, -, -, n8⟩ := m 1 (by omega) (by omega)
      rw [m8, n8]
      exact k4 h2
theorem Pg_turn (hO : OkD e) (hT : TurnedD e d') (hR : TurnedR e r) : Pg d' r := by
  have h0 := hO.1
  obtain ⟨⟨a1, a2, a3, a4⟩, b, c⟩ := id hT
  obtain ⟨⟨p1, p2, p3, p4⟩, p5, p6, p7⟩ := hR
  refine ⟨⟨by omega, by omega, by omega, fun k hk => ?_, fun X Y g => ?_, fun X Y x1 x2 y1 y2 g => ?_, fun X Y i g i1 i2 => ?_⟩, by omega⟩
  · obtain ⟨z1, z2, z3⟩ := b k hk
    obtain ⟨q1, q2, q3⟩ := p5 k hk
    omega
  · obtain ⟨g2, et⟩ := turn_in hT g
    have ec := turn_cn hT g2
    obtain ⟨q1, -⟩ := p6 _ _ g2
    rw [et] at ec q1
    rw [ec, q1]
  · refine p7 X Y x1 x2 y1 y2 (fun z => g ?_)
    unfold inG
    omega
  · obtain ⟨g2, et⟩ := turn_in hT g
    have ec := turn_cn hT g2
    obtain ⟨-, m⟩ := c _ _ g2
    obtain ⟨-, q⟩ := p6 _ _ g2
    rw [et] at ec m q
    rw [ec] at i2
    obtain ⟨m5, m6, m7, m8⟩ := m i i1 i2
    obtain ⟨q5, q6, q7, q8⟩ := q i i1 i2
    rw [m5, m6, m7, m8]
    exact ⟨q5, q6, q7, q8⟩
end Tp
theorem zo_kept {h h' : zH} {a c : Nat} (e : h' a = h a) : zo h' a c = zo h a c := by unfold zo; rw [e]
theorem zgr_kept {h h' : zH} {a c k : Nat} (e : h' a = h a) : zgr h' a c k = zgr h a c k := by unfold zgr; rw [zo_kept e]
theorem zgi_kept {h h' : zH} {a c k : Nat} (e : h' a = h a) : zgi h' a c k = zgi h a c k := by unfold zgi; rw [zo_kept e]
section Tr
variable {T : zT} {h : zH} {m p o : Nat} {d : Nat → Nat → Int} {r R : Nat → Int}
theorem turnCell7_eq (hz : zgr h m 7 7 = some o) (hA : Arr T h p 739 r) (hB : Arr T h o 739 R) (hP : PgM d R) (hO : OkD d) (n1 : m ≠ p) (n2 : o ≠ p) {x y : Int} (g : inG d x y) {ρ : Type} (K : zH → Option ρ) : ∃ h' r', LX7_turnOn_155 T m p (iZ y) (iZ x) (iZ (cel x y)) (iZ (cel (tX d y) x)) (fun (h59 : zH) => LX7_turnOn_188 T m p (iZ y) (iZ x) (iZ (cel (tX d y) x)) K FUEL (iZ 0) h59) FUEL (iZ 0) h = K h' ∧ Arr T h' p 739 r' ∧ DoneP d r' x y ∧ (∀ j : Nat, ((j : Int) < cel (tX d y) x ∨ cel (tX d y) x + 9 ≤ j) → r' j = r j) ∧ ∀ q, q ≠ p → h' q = h q := by
  have g9 := hO.g9 g
  have hcn := hO.cn g
  have g0 := g
  unfold inG at g
  obtain ⟨⟨o1, o2, o3, o4, -⟩, -⟩ := id hO
  have hX : 0 ≤ tX d y ∧ tX d y < 9 := by unfold tX; omega
  have hcl := cel_in g9
  have hct := cel_in (x := tX d y) (y := x) ⟨hX.1, hX.2, g9.1, g9.2.1⟩
  have st1 : ∃ h1 r1, LX7_turnOn_155 T m p (iZ y) (iZ x) (iZ (cel x y)) (iZ (cel (tX d y) x)) (fun (h59 : zH) => LX7_turnOn_188 T m p (iZ y) (iZ x) (iZ (cel (tX d y) x)) K FUEL (iZ 0) h59) FUEL (iZ 0) h = LX7_turnOn_188 T m p (iZ y) (iZ x) (iZ (cel (tX d y) x)) K FUEL (iZ 0) h1 ∧ Arr T h1 p 739 r1 ∧ (∀ j : Nat, r1 j = if cel (tX d y) x ≤ j ∧ (j : Int) < cel (tX d y) x + 9 then R (cel x y + (j - cel (tX d y) x)).toNat else r j) ∧ ∀ q, q ≠ p → h1 q = h q := by
    refine Exists.elim (loop_inv0 (L := LX7_turnOn_155 T m p (iZ y) (iZ x) (iZ (cel x y)) (iZ (cel (tX d y) x)) (fun (h59 : zH) => LX7_turnOn_188 T m p (iZ y) (iZ x) (iZ (cel (tX d y) x)) K FUEL (iZ 0) h59)) (K := fun h59 => LX7_turnOn_188 T m p (iZ y) (iZ x) (iZ (cel (tX d y) x)) K FUEL (iZ 0) h59) (I := fun t g => (∃ r1, Arr T g p 739 r1 ∧ (∀ j : Nat, r1 j = if cel (tX d y) x ≤ j ∧ (j : Int) < cel (tX d y) x + t then R (cel x y + (j - cel (tX d y) x)).toNat else r j)) ∧ ∀ q, q ≠ p → g q = h q) (n := 9) (by omega) (fun k t g1 ht hI => ?_) (fun k g1 hI => ?_) (h := h) ⟨⟨r, hA, fun j => by rw [if_neg (by omega)]⟩, fun _ _ => rfl⟩) ?_
    · obtain ⟨⟨r1, A1, v1⟩, k1⟩ := hI
      have B1 : Arr T g1 o 739 R := hB.kept (k1 o n2)
      have z1 : zai T g1 o (iZ (cel x y + t)) = some (iZ (R (cel x y + t).toNat)) := zai_p B1 (by omega) (by omega)
      obtain ⟨g2, e2, A2, k2⟩ := zas_p (v := R (cel x y + t).toNat) A1 (i := cel (tX d y) x + t) (by omega) (by omega)
      refine ⟨g2, ?_, ⟨_, A2, fun j => ?_⟩, fun q hq => (k2 q hq).trans (k1 q hq)⟩
      · rw [LX7_turnOn_155.eq_2]
        simp (disch := omega) only [q9, iZ_le, if_neg, zgr_kept (k1 m n1), hz, zsn, iZ_add, z1, e2, q1]
      · by_cases cc : (j : Int) = cel (tX d y) x + t
        · rw [upZ_eq _ _ (by omega), if_pos (by omega), cc]
          congr 2
          omega
        · rw [upZ_ne _ _ (by omega), v1 j]
          by_cases c2 : cel (tX d y) x ≤ j ∧ (j : Int) < cel (tX d y) x + t
          · rw [if_pos c2, if_pos (by omega)]
          · rw [if_neg c2, if_neg (by omega)]
    · rw [LX7_turnOn_155.eq_2]
      rw [q9, if_pos (by exact Int32.le_refl _)]
    · rintro g1 ⟨e1, ⟨r1, A1, v1⟩, k1⟩
      exact ⟨g1, r1, e1, A1, v1, k1⟩
  obtain ⟨h1, r1, e1, A1, v1, k1⟩ := st1
  have r1c : r1 (cel (tX d y) x).toNat = cn d x y := by
    rw [v1, if_pos (by omega), ← hP.c x y g0]
    congr 2
    omega
  have r1m : ∀ i, 0 ≤ i → i < cn d x y → r1 (cel (tX d y) x + 1 + 4 * i).toNat = d 5 (pl x y i) ∧ r1 (cel (tX d y) x + 1 + 4 * i + 1).toNat = d 6 (pl x y i) ∧ r1 (cel (tX d y) x + 1 + 4 * i + 2).toNat = d 7 (pl x y i) ∧ r1 (cel (tX d y) x + 1 + 4 * i + 3).toNat = d 8 (pl x y i) := by
    intro i i1 i2
    obtain ⟨m5, m6, m7, m8⟩ := hP.m x y i g0 i1 i2
    rw [v1, v1, v1, v1, if_pos (by omega), if_pos (by omega), if_pos (by omega), if_pos (by omega), ← m5, ← m6, ← m7, ← m8]
    refine ⟨?_, ?_, ?_, ?_⟩ <;> (congr 2; omega)
  refine Exists.elim (loop_inv0 (L := LX7_turnOn_188 T m p (iZ y) (iZ x) (iZ (cel (tX d y) x)) K) (K := K) (I := fun t g => (∃ r2, Arr T g p 739 r2 ∧ r2 (cel (tX d y) x).toNat = cn d x y ∧ (∀ i, 0 ≤ i → i < cn d x y → r2 (cel (tX d y) x + 1 + 4 * i).toNat = d 5 (pl x y i) ∧ r2 (cel (tX d y) x + 1 + 4 * i + 1).toNat = d 6 (pl x y i) ∧ r2 (cel (tX d y) x + 1 + 4 * i + 2).toNat = (if i < t then 8 - d 7 (pl x y i) else d 7 (pl x y i)) ∧ r2 (cel (tX d y) x + 1 + 4 * i + 3).toNat = d 8 (pl x y i)) ∧ (∀ j : Nat, ((j : Int) < cel (tX d y) x ∨ cel (tX d y) x + 9 ≤ j) → r2 j = r j)) ∧ ∀ q, q ≠ p → g q = h q) (n := (cn d x y).toNat) (by omega) (fun k t g1 ht hI => ?_) (fun k g1 hI => ?_) (h := h1) ⟨⟨r1, A1, r1c, fun i i1 i2 => ?_, fun j hj => ?_⟩, k1⟩) ?_
  · obtain ⟨⟨r2, A2, c2, m2, u2⟩, k2⟩ := hI
    obtain ⟨-, -, m7, -⟩ := m2 t (by omega) (by omega)
    rw [if_neg (by omega)] at m7
    have z1 : zai T g1 p (iZ (cel (tX d y) x)) = some (iZ (cn d x y)) := by rw [zai_p A2 (by omega) (by omega), c2]
    have z2 : zai T g1 p (iZ (cel (tX d y) x + 1 + 4 * t + 2)) = some (iZ (d 7 (pl x y t))) := by rw [zai_p A2 (by omega) (by omega), m7]
    obtain ⟨g2, e2, A3, k3⟩ := zas_p (v := 8 - d 7 (pl x y t)) A2 (i := cel (tX d y) x + 1 + 4 * t + 2) (by omega) (by omega)
    refine ⟨g2, ?_, ⟨_, A3, ?_, fun i i1 i2 => ?_, fun j hj => ?_⟩, fun q hq => (k3 q hq).trans (k2 q hq)⟩
    · rw [LX7_turnOn_188.eq_2]
      simp (disch := omega) only [z1, zsn, iZ_le, if_neg, markAt_eq, q2, iZ_add, z2, q8, iZ_sub, e2, q1]
    · rw [upZ_ne _ _ (by omega)]; exact c2
    · obtain ⟨a5, a6, a7, a8⟩ := m2 i i1 i2
      by_cases ci : i = t
      · rw [ci, upZ_self, upZ_ne _ _ (by omega), upZ_ne _ _ (by omega), upZ_ne _ _ (by omega), if_pos (by omega)]
        rw [ci] at a5 a6 a8
        exact ⟨a5, a6, rfl, a8⟩
      · rw [upZ_ne _ _ (by omega), upZ_ne _ _ (by omega), upZ_ne _ _ (by omega), upZ_ne _ _ (by omega), a5, a6, a7, a8]
        refine ⟨rfl, rfl, ?_, rfl⟩
        by_cases c3 : i < (t : Int)
        · rw [if_pos c3, if_pos (by omega)]
        · rw [if_neg c3, if_neg (by omega)]
    · rw [upZ_ne _ _ (by omega)]; exact u2 j hj
  · obtain ⟨⟨r2, A2, c2, m2, u2⟩, k2⟩ := hI
    have z1 : zai T g1 p (iZ (cel (tX d y) x)) = some (iZ (cn d x y)) := by rw [zai_p A2 (by omega) (by omega), c2]
    rw [LX7_turnOn_188.eq_2]
    simp (disch := omega) only [z1, zsn, iZ_le, if_pos]
  · obtain ⟨a5, a6, a7, a8⟩ := r1m i i1 i2
    rw [if_neg (by omega)]
    exact ⟨a5, a6, a7, a8⟩
  · rw [v1, if_neg (by omega)]
  · rintro g1 ⟨e2, ⟨r2, A2, c2, m2, u2⟩, k2⟩
    refine ⟨g1, r2, e1.trans e2, A2, ⟨c2, fun i i1 i2 => ?_⟩, u2, k2⟩
    have a := m2 i i1 i2
    rw [if_pos (by omega)] at a
    exact a
end Tr
