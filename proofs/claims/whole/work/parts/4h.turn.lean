/-! the whole page is turned -/
theorem DoneP_kept {d : Nat → Nat → Int} {r r' : Nat → Int} (hO : OkD d) {x y x' y' : Int} (g : inG d x y) (g' : inG d x' y') (ne : ¬ (x' = x ∧ y' = y)) (hF : ∀ j : Nat, ((j : Int) < cel (tX d y) x ∨ cel (tX d y) x + 9 ≤ j) → r' j = r j) (hD : DoneP d r x' y') : DoneP d r' x' y' := by
  have g9 := hO.g9 g
  have g9' := hO.g9 g'
  have w := hO.wh
  have hc := hO.cn g'
  unfold inG at g g'
  have far : cel (tX d y') x' + 9 ≤ cel (tX d y) x ∨ cel (tX d y) x + 9 ≤ cel (tX d y') x' := by unfold cel tX; omega
  have pos : 10 ≤ cel (tX d y') x' := by unfold cel tX; omega
  obtain ⟨d1, d2⟩ := hD
  refine ⟨?_, fun i i1 i2 => ?_⟩
  · rw [hF _ (by omega)]; exact d1
  · rw [hF _ (by omega), hF _ (by omega), hF _ (by omega), hF _ (by omega)]
    exact d2 i i1 i2
section Tw
variable {T : zT} {h : zH} {m p o : Nat} {d : Nat → Nat → Int} {r R : Nat → Int}
theorem turnLoop7_eq (hz : zgr h m 7 7 = some o) (hA : Arr T h p 739 r) (hB : Arr T h o 739 R) (hP : PgM d R) (hO : OkD d) (n1 : m ≠ p) (n2 : o ≠ p) {ρ : Type} (K : zH → Option ρ) (h0 : ∀ X Y, 0 ≤ X → X < 9 → 0 ≤ Y → Y < 9 → r (cel X Y).toNat = 0) : ∃ h' r', LX7_turnOn_107 T m p K FUEL (iZ 0) h = K h' ∧ Arr T h' p 739 r' ∧ (∀ j : Nat, j < 10 → r' j = r j) ∧ (∀ x y, inG d x y → DoneP d r' x y) ∧ (∀ X Y, 0 ≤ X → X < 9 → 0 ≤ Y → Y < 9 → ¬ (X < d 0 1 ∧ Y < d 0 0) → r' (cel X Y).toNat = 0) ∧ ∀ q, q ≠ p → h' q = h q := by
  obtain ⟨w1, w2, w3, w4⟩ := hO.wh
  have E0 : ∀ g, (∀ q, q ≠ p → g q = h q) → zai T g o (iZ 0) = some (iZ (d 0 0)) := fun g kg => by rw [zai_p (hB.kept (kg o n2)) (by omega) (by omega), ← hP.w]; rfl
  have E1 : ∀ g, (∀ q, q ≠ p → g q = h q) → zai T g o (iZ 1) = some (iZ (d 0 1)) := fun g kg => by rw [zai_p (hB.kept (kg o n2)) (by omega) (by omega), ← hP.v]; rfl
  have Z : ∀ g, (∀ q, q ≠ p → g q = h q) → zgr g m 7 7 = some o := fun g kg => (zgr_kept (kg m n1)).trans hz
  have step : ∀ (r1 r2 : Nat → Int) (x y : Int), inG d x y → (∀ j : Nat, ((j : Int) < cel (tX d y) x ∨ cel (tX d y) x + 9 ≤ j) → r2 j = r1 j) → (∀ j : Nat, j < 10 → r1 j = r j) ∧ (∀ X Y, 0 ≤ X → X < 9 → 0 ≤ Y → Y < 9 → ¬ (X < d 0 1 ∧ Y < d 0 0) → r1 (cel X Y).toNat = 0) → (∀ j : Nat, j < 10 → r2 j = r j) ∧ (∀ X Y, 0 ≤ X → X < 9 → 0 ≤ Y → Y < 9 → ¬ (X < d 0 1 ∧ Y < d 0 0) → r2 (cel X Y).toNat = 0) := by
    intro r1 r2 x y g hu ⟨u1, u2⟩
    unfold inG at g
    have pos : 10 ≤ cel (tX d y) x := by unfold cel tX; omega
    refine ⟨fun j hj => ?_, fun X Y x1 x2 y1 y2 ng => ?_⟩
    · rw [hu j (by omega)]; exact u1 j hj
    · have far : cel X Y + 9 ≤ cel (tX d y) x ∨ cel (tX d y) x + 9 ≤ cel X Y := by unfold cel tX; omega
      have := cel_in ⟨x1, x2, y1, y2⟩
      rw [hu _ (by omega)]
      exact u2 X Y x1 x2 y1 y2 ng
  refine Exists.elim (loop_inv0 (L := LX7_turnOn_107 T m p K) (K := K) (I := fun j g => (∃ r1, Arr T g p 739 r1 ∧ ((∀ q : Nat, q < 10 → r1 q = r q) ∧ (∀ X Y, 0 ≤ X → X < 9 → 0 ≤ Y → Y < 9 → ¬ (X < d 0 1 ∧ Y < d 0 0) → r1 (cel X Y).toNat = 0)) ∧ ∀ x y, inG d x y → y < j → DoneP d r1 x y) ∧ ∀ q, q ≠ p → g q = h q) (n := (d 0 1).toNat) (by omega) (fun k j g hj hI => ?_) (fun k g hI => ?_) (h := h) ⟨⟨r, hA, ⟨fun _ _ => rfl, fun X Y x1 x2 y1 y2 _ => h0 X Y x1 x2 y1 y2⟩, fun x y g gy => ?_⟩, fun _ _ => rfl⟩) ?_
  · obtain ⟨⟨r1, A1, u1, D1⟩, k1⟩ := hI
    refine Exists.elim (loop_inv0 (L := LX7_turnOn_119 T m p (iZ j) (fun (h75 : zH) => LX7_turnOn_107 T m p K k (iZ j + 1) h75)) (K := fun h75 => LX7_turnOn_107 T m p K k (iZ j + 1) h75) (I := fun i g => (∃ r1, Arr T g p 739 r1 ∧ ((∀ q : Nat, q < 10 → r1 q = r q) ∧ (∀ X Y, 0 ≤ X → X < 9 → 0 ≤ Y → Y < 9 → ¬ (X < d 0 1 ∧ Y < d 0 0) → r1 (cel X Y).toNat = 0)) ∧ ∀ x y, inG d x y → (y < j ∨ (y = j ∧ x < i)) → DoneP d r1 x y) ∧ ∀ q, q ≠ p → g q = h q) (n := (d 0 0).toNat) (by omega) (fun k2 i g2 hi hJ => ?_) (fun k2 g2 hJ => ?_) (h := g) ⟨⟨r1, A1, u1, fun x y gg q => ?_⟩, k1⟩) ?_
    · obtain ⟨⟨r2, A2, u2, D2⟩, k2'⟩ := hJ
      have gg : inG d i j := ⟨by omega, by omega, by omega, by omega⟩
      obtain ⟨g3, r3, e3, A3, P3, F3, k3⟩ := turnCell7_eq (Z g2 k2') A2 (hB.kept (k2' o n2)) hP hO n1 n2 gg (fun (h74 : zH) => LX7_turnOn_119 T m p (iZ j) (fun (h75 : zH) => LX7_turnOn_107 T m p K k (iZ j + 1) h75) k2 (iZ i + 1) h74)
      refine ⟨g3, ?_, ⟨r3, A3, step r2 r3 i j gg F3 u2, fun x y gx q => ?_⟩, fun q hq => (k3 q hq).trans (k2' q hq)⟩
      · rw [LX7_turnOn_119.eq_2]
        rw [Z g2 k2', zsn, q0, E0 g2 k2', zsn, if_neg (by rw [iZ_le (by omega) (by omega) (by omega) (by omega)]; omega), cellAt_eq, zsn, zsn, q1, E1 g2 k2', zsn, iZ_sub, iZ_sub, cellAt_eq, zsn]
        simp only [q0, q1, iZ_add] at e3 ⊢
        exact e3
      · by_cases cc : x = i ∧ y = j
        · rw [cc.1, cc.2]; exact P3
        · exact DoneP_kept hO gg gx cc F3 (D2 x y gx (by omega))
    · obtain ⟨⟨r2, A2, u2, D2⟩, k2'⟩ := hJ
      rw [LX7_turnOn_119.eq_2]
      rw [Z g2 k2', zsn, q0, E0 g2 k2', zsn, if_pos (by rw [iZ_le (by omega) (by omega) (by omega) (by omega)]; omega)]
    · rcases q with q | q
      · exact D1 x y gg q
      · have := gg.1; omega
    · rintro g3 ⟨e3, ⟨r3, A3, u3, D3⟩, k3⟩
      refine ⟨g3, ?_, ⟨r3, A3, u3, fun x y gx q => D3 x y gx ?_⟩, k3⟩
      · rw [LX7_turnOn_107.eq_2]
        rw [Z g k1, zsn, q1, E1 g k1, zsn, if_neg (by rw [iZ_le (by omega) (by omega) (by omega) (by omega)]; omega), q0]
        rw [q1] at e3
        rw [e3, iZ_add]
      · have := gx.2.1; omega
  · obtain ⟨⟨r1, A1, u1, D1⟩, k1⟩ := hI
    rw [LX7_turnOn_107.eq_2]
    rw [Z g k1, zsn, q1, E1 g k1, zsn, if_pos (by rw [iZ_le (by omega) (by omega) (by omega) (by omega)]; omega)]
  · have := g.2.2.1; omega
  · rintro g ⟨e1, ⟨r1, A1, u1, D1⟩, k1⟩
    exact ⟨g, r1, e1, A1, u1.1, fun x y gx => D1 x y gx (by have := gx.2.2.2; omega), u1.2, k1⟩
theorem penStep {ρ : Type} {K : zH → Option ρ} (hz : zgr h m 7 7 = some o) (hA : Arr T h p 739 r) (hB : Arr T h o 739 R) (hP : PgM d R) {k q : Nat} (hk : k < 2) : ∃ h', LX7_turnOn_50 T m p K (q + 1) (iZ k) h = LX7_turnOn_50 T m p K q (iZ (k + 1)) h' ∧ Arr T h' p 739 (plet r k (d 1 k) (8 - d 2 k) (1 - d 3 k)) ∧ ∀ j, j ≠ p → h' j = h j := by
  obtain ⟨p1, p2, p3⟩ := zai_l hB hP hk
  obtain ⟨h1, e1, a1, k1⟩ := penOn_eq hA (u := d 1 k) (v := 8 - d 2 k) (w := 1 - d 3 k) hk
  refine ⟨h1, ?_, a1, k1⟩
  rw [LX7_turnOn_50.eq_2]
  simp (disch := omega) only [q2, q4, q3, q1, q8, iZ_le, if_neg, hz, zsn, iZ_mul, iZ_add, p1, p2, p3, iZ_sub, e1]
theorem pens7_eq {ρ : Type} {K : zH → Option ρ} (hz : zgr h m 7 7 = some o) (hA : Arr T h p 739 r) (hB : Arr T h o 739 R) (hP : PgM d R) (n1 : m ≠ p) (n2 : o ≠ p) : ∃ h', LX7_turnOn_50 T m p K FUEL (iZ 0) h = K h' ∧ Arr T h' p 739 (plet (plet r 0 (d 1 0) (8 - d 2 0) (1 - d 3 0)) 1 (d 1 1) (8 - d 2 1) (1 - d 3 1)) ∧ ∀ j, j ≠ p → h' j = h j := by
  obtain ⟨h1, e1, a1, k1⟩ := penStep (K := K) (q := 9997 + 1 + 1) hz hA hB hP (k := 0) (by omega)
  obtain ⟨h2, e2, a2, k2⟩ := penStep (K := K) (q := 9997 + 1) ((zgr_kept (k1 m n1)).trans hz) a1 (hB.kept (k1 o n2)) hP (k := 1) (by omega)
  refine ⟨h2, ?_, a2, fun j hj => (k2 j hj).trans (k1 j hj)⟩
  rw [show FUEL = 9997 + 1 + 1 + 1 from rfl]
  rw [show ((0 : Nat) : Int) = 0 from rfl] at e1
  rw [show ((1 : Nat) : Int) = 1 from rfl] at e2
  rw [e1, show (0 : Int) + 1 = 1 from rfl, e2, LX7_turnOn_50.eq_2, if_pos (by rw [q2]; exact Int32.le_refl _)]
theorem turnOn_eq (hz0 : ∃ fs, zo h m 7 = some fs) (hz : zgr h m 7 7 = some o) (hA : Arr T h p 739 r) {s : Nat → Int} (hB : Arr T h o 739 s) (hP : Pg d r) (hO : OkD d) (n1 : m ≠ p) (n2 : o ≠ p) (n3 : m ≠ o) : ∃ h' r' R, FX7_turnOn T m p h = some h' ∧ Arr T h' p 739 r' ∧ Arr T h' o 739 R ∧ TurnedR d r' ∧ ∀ q, q ≠ p → q ≠ o → h' q = h q := by
  obtain ⟨g1, e1, B1, k1⟩ := copy_eq hA hB (fun z => n2 z.symm) (p := 0) (q := 0) (by omega) (by omega) (by omega) (by omega)
  have hRr : ∀ j, j < 739 → cpy r s 0 0 739 j = r j := fun j hj => by
    unfold cpy
    rw [if_pos ⟨by omega, by omega⟩, Nat.zero_add, Nat.sub_zero]
  have hPR : Pg d (cpy r s 0 0 739) := Pg_same (SameD.refl d) hO hP hRr
  have A1 : Arr T g1 p 739 r := hA.kept (k1 p (fun z => n2 z.symm))
  have z1 : zgr g1 m 7 7 = some o := (zgr_kept (k1 m n3)).trans hz
  refine Exists.elim (loop_inv (L := LX7_turnOn_13 T m p (fun (h9 : zH) => (zgr h9 m 7 7).bind fun x10 => (zai T h9 x10 1).bind fun x11 => (zas T h9 p 0 x11).bind fun h12 => (zgr h12 m 7 7).bind fun x13 => (zai T h12 x13 0).bind fun x14 => (zas T h12 p 1 x14).bind fun h15 => LX7_turnOn_50 T m p (fun (h28 : zH) => LX7_turnOn_107 T m p (fun (h76 : zH) => some h76) FUEL 0 h28) FUEL 0 h15)) (K := fun (h9 : zH) => (zgr h9 m 7 7).bind fun x10 => (zai T h9 x10 1).bind fun x11 => (zas T h9 p 0 x11).bind fun h12 => (zgr h12 m 7 7).bind fun x13 => (zai T h12 x13 0).bind fun x14 => (zas T h12 p 1 x14).bind fun h15 => LX7_turnOn_50 T m p (fun (h28 : zH) => LX7_turnOn_107 T m p (fun (h76 : zH) => some h76) FUEL 0 h28) FUEL 0 h15) (I := fun i g => 10 ≤ i ∧ (∃ r1, Arr T g p 739 r1 ∧ (∀ j, j < 10 → r1 j = r j) ∧ ∀ j, 10 ≤ j → j < i → r1 j = 0) ∧ ∀ q, q ≠ p → g q = g1 q) (n := 739) (fun k i g hi hI => ?_) (fun k g hI => ?_) FUEL 10 g1 (by omega) (by unfold FUEL; omega) ⟨by omega, ⟨r, A1, fun _ _ => rfl, fun j j1 j2 => by omega⟩, fun _ _ => rfl⟩) ?_
  · obtain ⟨i10, ⟨r1, a1, u1, v1⟩, k2⟩ := hI
    obtain ⟨g2, e2, a2, k3⟩ := zas_p (v := 0) a1 (i := i) (by omega) (by omega)
    refine ⟨g2, ?_, by omega, ⟨_, a2, fun j hj => ?_, fun j j1 j2 => ?_⟩, fun q hq => (k3 q hq).trans (k2 q hq)⟩
    · rw [LX7_turnOn_13.eq_2]
      simp (disch := omega) only [q739, iZ_le, if_neg, q0, e2, zsn, q1, iZ_add]
    · rw [upZ_ne _ _ (by omega)]; exact u1 j hj
    · by_cases c : j = i
      · rw [upZ_eq _ _ (by omega)]
      · rw [upZ_ne _ _ (by omega)]; exact v1 j j1 (by omega)
  · rw [LX7_turnOn_13.eq_2]
    rw [q739, if_pos (by exact Int32.le_refl _)]
  · rintro g ⟨e2, -, ⟨r1, a1, u1, v1⟩, k2⟩
    have zz : ∀ g9 : zH, (∀ q, q ≠ p → g9 q = g1 q) → zgr g9 m 7 7 = some o := fun g9 kk => (zgr_kept (kk m n1)).trans z1
    have bb : ∀ g9 : zH, (∀ q, q ≠ p → g9 q = g1 q) → Arr T g9 o 739 (cpy r s 0 0 739) := fun g9 kk => B1.kept (kk o n2)
    have x1 : zai T g o (iZ 1) = some (iZ (d 0 1)) := by rw [zai_p (bb g k2) (by omega) (by omega), ← hPR.1.v]; rfl
    obtain ⟨g3, e3, a3, k3⟩ := zas_p (v := d 0 1) a1 (i := 0) (by omega) (by omega)
    have k3' : ∀ q, q ≠ p → g3 q = g1 q := fun q hq => (k3 q hq).trans (k2 q hq)
    have x0 : zai T g3 o (iZ 0) = some (iZ (d 0 0)) := by rw [zai_p (bb g3 k3') (by omega) (by omega), ← hPR.1.w]; rfl
    obtain ⟨g4, e4, a4, k4⟩ := zas_p (v := d 0 0) a3 (i := 1) (by omega) (by omega)
    have k4' : ∀ q, q ≠ p → g4 q = g1 q := fun q hq => (k4 q hq).trans (k3' q hq)
    obtain ⟨g5, e5, a5, k5⟩ := pens7_eq (K := fun (h28 : zH) => LX7_turnOn_107 T m p (fun (h76 : zH) => some h76) FUEL (iZ 0) h28) (zz g4 k4') a4 (bb g4 k4') hPR.1 n1 n2
    have k5' : ∀ q, q ≠ p → g5 q = g1 q := fun q hq => (k5 q hq).trans (k4' q hq)
    obtain ⟨g6, r6, e6, a6, b1, b2, b3, k6⟩ := turnLoop7_eq (zz g5 k5') a5 (bb g5 k5') hPR.1 hO n1 n2 (fun (h76 : zH) => some h76) (fun X Y x1 x2 y1 y2 => by
      have := cel_in ⟨x1, x2, y1, y2⟩
      rw [plet_out (by omega), plet_out (by omega), upZ_ne _ _ (by omega), upZ_ne _ _ (by omega)]
      exact v1 _ (by omega) (by omega))
    have k6' : ∀ q, q ≠ p → g6 q = g1 q := fun q hq => (k6 q hq).trans (k5' q hq)
    obtain ⟨fs, hz0⟩ := hz0
    refine ⟨g6, r6, _, ?_, a6, bb g6 k6', ⟨⟨?_, ?_, ?_, ?_⟩, fun k hk => ?_, b2, b3⟩, fun q q1 q2 => (k6' q q1).trans (k1 q q2)⟩
    · unfold FX7_turnOn
      rw [hz0, zsn, hz, zsn, q0]
      have e1' : FX7_copyPage T p (iZ 0) o (iZ 0) h = some g1 := e1
      rw [e1', zsn, q10]
      simp only [q0, q1] at e2
      have ee : ((10 : Nat) : Int) = 10 := rfl
      rw [ee] at e2
      simp only [q0, q1]
      rw [e2, zz g k2, zsn, x1, zsn, e3, zsn, zz g3 k3', zsn, x0, zsn, e4, zsn, e5, e6]
    · rw [b1 0 (by omega), plet_out (by omega), plet_out (by omega), upZ_ne _ _ (by omega)]
      exact upZ_self _ _ _
    · rw [b1 1 (by omega), plet_out (by omega), plet_out (by omega)]
      exact upZ_self _ _ _
    · rw [b1 2 (by omega), plet_out (by omega), plet_out (by omega), upZ_ne _ _ (by omega), upZ_ne _ _ (by omega), u1 2 (by omega)]
      exact hP.2
    · rw [b1 3 (by omega), plet_out (by omega), plet_out (by omega), upZ_ne _ _ (by omega), upZ_ne _ _ (by omega), u1 3 (by omega)]
      exact hP.1.g
    · rcases (show k = 0 ∨ k = 1 by omega) with rfl | rfl
      · rw [b1 _ (by omega), b1 _ (by omega), b1 _ (by omega)]
        exact ⟨rfl, rfl, rfl⟩
      · rw [b1 _ (by omega), b1 _ (by omega), b1 _ (by omega)]
        exact ⟨rfl, rfl, rfl⟩
end Tw
