/-! what is made new -/
section Nw
variable {T : zT} {hz h : zH}
theorem zpv_at {a ci : Nat} {fs : List Value} (e : h a = some (.inr (ci, fs))) {k : Nat} (hk : k < fs.length) (v : Value) : ∃ h', zpv h a ci k v = some h' ∧ h' a = some (.inr (ci, fs.set k v)) ∧ ∀ q, q ≠ a → h' q = h q := by
  refine ⟨va_up h a (some (.inr (ci, fs.set k v))), ?_, va_up_self _ _ _, fun q hq => va_up_ne _ _ hq⟩
  unfold zpv
  rw [zo_of e, zsn, if_pos hk]
theorem znw_at (h : zH) (a ci : Nat) (fs : List Value) : ∃ h', znw h a ci fs = some h' ∧ h' a = some (.inr (ci, fs)) ∧ ∀ q, q ≠ a → h' q = h q := ⟨_, rfl, va_up_self _ _ _, fun q hq => va_up_ne _ _ hq⟩
theorem zna_at (h : zH) (a : Nat) (c : ClassId) {m : Nat} (hm : m ≤ 99999) {z : Int} (hz : z = (m : Int)) : ∃ h', zna c h a (iZ z) = some h' ∧ h' a = some (.inl (c, m, .inl (fun _ => 0))) ∧ ∀ q, q ≠ a → h' q = h q := by
  refine ⟨va_up h a (some (.inl (c, m, .inl (fun _ => 0)))), ?_, va_up_self _ _ _, fun q hq => va_up_ne _ _ hq⟩
  subst hz
  have e : (iZ (m : Int)).toNatClampNeg = m := by rw [iZ_clamp (by omega) (by omega)]; rfl
  unfold zna
  rw [e, if_neg]
  intro z
  rcases z with z | z
  · rw [q0, iZ_lt (by omega) (by omega) (by omega) (by omega)] at z
    omega
  · omega
theorem new_num (T : zT) (h : zH) (a s : Nat) (hs : s = a + 1) {m : Nat} (m1 : 1 ≤ m) (m2 : m ≤ 9999) {z : Int} (hz : z = (m : Int)) : ∃ h', (∀ {ρ : Type} (G : Nat → zH → Option ρ), ((znw h a 1 [.null]).bind fun h1 => zb2 (FX1_init T a (iZ z) s h1) G) = G (s + 1) h') ∧ Num T h' a m (fun _ => 0) ∧ ∀ q, q ≠ a → q ≠ a + 1 → h' q = h q := by
  subst hs
  obtain ⟨h1, e1, a1, f1⟩ := znw_at h a 1 [.null]
  obtain ⟨h2, e2, a2, f2⟩ := zna_at h1 (a + 1) T.1 (m := m) (by omega) hz
  obtain ⟨h3, e3, a3, f3⟩ := zpv_at (h := h2) ((f2 a (by omega)).trans a1) (k := 0) (Nat.le_of_ble_eq_true rfl) (.ref (a + 1))
  refine ⟨h3, fun G => ?_, ⟨a3, (f3 _ (by omega)).trans a2⟩, fun q q1 q2 => (f3 q q1).trans ((f2 q q2).trans (f1 q q1))⟩
  rw [e1, zsn]
  unfold FX1_init
  rw [zo_of a1, zsn, q0, if_neg (by rw [iZ_le (by omega) (by omega) (by omega) (by omega)]; omega), e2, zsn, e3, zsn, zb2n]
theorem q162 : (162 : Int32) = iZ 162 := rfl
theorem q8_ : (8 : Int32) = iZ 8 := rfl
theorem new_sheet (T : zT) (h : zH) (a s : Nat) (hs : s = a + 1) : ∃ h' d, (∀ {ρ : Type} (G : Nat → zH → Option ρ), ((znw h a 3 [.int 0, .int 0, .int 0, .int 0, .null, .null, .null, .null, .null, .null, .null, .null]).bind fun h1 => zb2 (FX3_init T a s h1) G) = G (a + 17) h') ∧ ShAt T h' a d ∧ Fresh d 6 6 ∧ ∀ q, q < a ∨ a + 16 < q → h' q = h q := by
  subst hs
  obtain ⟨h0, e0, a0, f0⟩ := znw_at h a 3 [.int 0, .int 0, .int 0, .int 0, .null, .null, .null, .null, .null, .null, .null, .null]
  obtain ⟨n0, u0, N0, p0⟩ := new_num T h0 (a + 1) ((a + 1) + 1) rfl (m := 2) (by omega) (by omega) (z := 2) (by decide)
  obtain ⟨g0, w0, b0, r0⟩ := zpv_at (h := n0) ((p0 a (by omega) (by omega)).trans a0) (k := 4) (Nat.le_of_ble_eq_true rfl) (.ref (a + 1))
  obtain ⟨n1, u1, N1, p1⟩ := new_num T g0 (a + 3) ((a + 3) + 1) rfl (m := 2) (by omega) (by omega) (z := 2) (by decide)
  obtain ⟨g1, w1, b1, r1⟩ := zpv_at (h := n1) ((p1 a (by omega) (by omega)).trans b0) (k := 5) (Nat.le_of_ble_eq_true rfl) (.ref (a + 3))
  obtain ⟨n2, u2, N2, p2⟩ := new_num T g1 (a + 5) ((a + 5) + 1) rfl (m := 2) (by omega) (by omega) (z := 2) (by decide)
  obtain ⟨g2, w2, b2, r2⟩ := zpv_at (h := n2) ((p2 a (by omega) (by omega)).trans b1) (k := 6) (Nat.le_of_ble_eq_true rfl) (.ref (a + 5))
  obtain ⟨n3, u3, N3, p3⟩ := new_num T g2 (a + 7) ((a + 7) + 1) rfl (m := 81) (by omega) (by omega) (z := 81) (by decide)
  obtain ⟨g3, w3, b3, r3⟩ := zpv_at (h := n3) ((p3 a (by omega) (by omega)).trans b2) (k := 7) (Nat.le_of_ble_eq_true rfl) (.ref (a + 7))
  obtain ⟨n4, u4, N4, p4⟩ := new_num T g3 (a + 9) ((a + 9) + 1) rfl (m := 162) (by omega) (by omega) (z := 162) (by decide)
  obtain ⟨g4, w4, b4, r4⟩ := zpv_at (h := n4) ((p4 a (by omega) (by omega)).trans b3) (k := 8) (Nat.le_of_ble_eq_true rfl) (.ref (a + 9))
  obtain ⟨n5, u5, N5, p5⟩ := new_num T g4 (a + 11) ((a + 11) + 1) rfl (m := 162) (by omega) (by omega) (z := 162) (by decide)
  obtain ⟨g5, w5, b5, r5⟩ := zpv_at (h := n5) ((p5 a (by omega) (by omega)).trans b4) (k := 9) (Nat.le_of_ble_eq_true rfl) (.ref (a + 11))
  obtain ⟨n6, u6, N6, p6⟩ := new_num T g5 (a + 13) ((a + 13) + 1) rfl (m := 162) (by omega) (by omega) (z := 162) (by decide)
  obtain ⟨g6, w6, b6, r6⟩ := zpv_at (h := n6) ((p6 a (by omega) (by omega)).trans b5) (k := 10) (Nat.le_of_ble_eq_true rfl) (.ref (a + 13))
  obtain ⟨n7, u7, N7, p7⟩ := new_num T g6 (a + 15) ((a + 15) + 1) rfl (m := 162) (by omega) (by omega) (z := 162) (by decide)
  obtain ⟨g7, w7, b7, r7⟩ := zpv_at (h := n7) ((p7 a (by omega) (by omega)).trans b6) (k := 11) (Nat.le_of_ble_eq_true rfl) (.ref (a + 15))
  have S0 : ShAt T g7 a (fun _ _ => 0) := by
    refine ⟨b7, fun rr ra rb => ?_⟩
    rcases (show rr = 1 ∨ rr = 2 ∨ rr = 3 ∨ rr = 4 ∨ rr = 5 ∨ rr = 6 ∨ rr = 7 ∨ rr = 8 by omega) with rfl | rfl | rfl | rfl | rfl | rfl | rfl | rfl
    · exact (((((((((((((((N0.kept (r0 _ (by omega)) (r0 _ (by omega))).kept (p1 _ (by omega) (by omega)) (p1 _ (by omega) (by omega))).kept (r1 _ (by omega)) (r1 _ (by omega))).kept (p2 _ (by omega) (by omega)) (p2 _ (by omega) (by omega))).kept (r2 _ (by omega)) (r2 _ (by omega))).kept (p3 _ (by omega) (by omega)) (p3 _ (by omega) (by omega))).kept (r3 _ (by omega)) (r3 _ (by omega))).kept (p4 _ (by omega) (by omega)) (p4 _ (by omega) (by omega))).kept (r4 _ (by omega)) (r4 _ (by omega))).kept (p5 _ (by omega) (by omega)) (p5 _ (by omega) (by omega))).kept (r5 _ (by omega)) (r5 _ (by omega))).kept (p6 _ (by omega) (by omega)) (p6 _ (by omega) (by omega))).kept (r6 _ (by omega)) (r6 _ (by omega))).kept (p7 _ (by omega) (by omega)) (p7 _ (by omega) (by omega))).kept (r7 _ (by omega)) (r7 _ (by omega)))
    · exact (((((((((((((N1.kept (r1 _ (by omega)) (r1 _ (by omega))).kept (p2 _ (by omega) (by omega)) (p2 _ (by omega) (by omega))).kept (r2 _ (by omega)) (r2 _ (by omega))).kept (p3 _ (by omega) (by omega)) (p3 _ (by omega) (by omega))).kept (r3 _ (by omega)) (r3 _ (by omega))).kept (p4 _ (by omega) (by omega)) (p4 _ (by omega) (by omega))).kept (r4 _ (by omega)) (r4 _ (by omega))).kept (p5 _ (by omega) (by omega)) (p5 _ (by omega) (by omega))).kept (r5 _ (by omega)) (r5 _ (by omega))).kept (p6 _ (by omega) (by omega)) (p6 _ (by omega) (by omega))).kept (r6 _ (by omega)) (r6 _ (by omega))).kept (p7 _ (by omega) (by omega)) (p7 _ (by omega) (by omega))).kept (r7 _ (by omega)) (r7 _ (by omega)))
    · exact (((((((((((N2.kept (r2 _ (by omega)) (r2 _ (by omega))).kept (p3 _ (by omega) (by omega)) (p3 _ (by omega) (by omega))).kept (r3 _ (by omega)) (r3 _ (by omega))).kept (p4 _ (by omega) (by omega)) (p4 _ (by omega) (by omega))).kept (r4 _ (by omega)) (r4 _ (by omega))).kept (p5 _ (by omega) (by omega)) (p5 _ (by omega) (by omega))).kept (r5 _ (by omega)) (r5 _ (by omega))).kept (p6 _ (by omega) (by omega)) (p6 _ (by omega) (by omega))).kept (r6 _ (by omega)) (r6 _ (by omega))).kept (p7 _ (by omega) (by omega)) (p7 _ (by omega) (by omega))).kept (r7 _ (by omega)) (r7 _ (by omega)))
    · exact (((((((((N3.kept (r3 _ (by omega)) (r3 _ (by omega))).kept (p4 _ (by omega) (by omega)) (p4 _ (by omega) (by omega))).kept (r4 _ (by omega)) (r4 _ (by omega))).kept (p5 _ (by omega) (by omega)) (p5 _ (by omega) (by omega))).kept (r5 _ (by omega)) (r5 _ (by omega))).kept (p6 _ (by omega) (by omega)) (p6 _ (by omega) (by omega))).kept (r6 _ (by omega)) (r6 _ (by omega))).kept (p7 _ (by omega) (by omega)) (p7 _ (by omega) (by omega))).kept (r7 _ (by omega)) (r7 _ (by omega)))
    · exact (((((((N4.kept (r4 _ (by omega)) (r4 _ (by omega))).kept (p5 _ (by omega) (by omega)) (p5 _ (by omega) (by omega))).kept (r5 _ (by omega)) (r5 _ (by omega))).kept (p6 _ (by omega) (by omega)) (p6 _ (by omega) (by omega))).kept (r6 _ (by omega)) (r6 _ (by omega))).kept (p7 _ (by omega) (by omega)) (p7 _ (by omega) (by omega))).kept (r7 _ (by omega)) (r7 _ (by omega)))
    · exact (((((N5.kept (r5 _ (by omega)) (r5 _ (by omega))).kept (p6 _ (by omega) (by omega)) (p6 _ (by omega) (by omega))).kept (r6 _ (by omega)) (r6 _ (by omega))).kept (p7 _ (by omega) (by omega)) (p7 _ (by omega) (by omega))).kept (r7 _ (by omega)) (r7 _ (by omega)))
    · exact (((N6.kept (r6 _ (by omega)) (r6 _ (by omega))).kept (p7 _ (by omega) (by omega)) (p7 _ (by omega) (by omega))).kept (r7 _ (by omega)) (r7 _ (by omega)))
    · exact (N7.kept (r7 _ (by omega)) (r7 _ (by omega)))
  obtain ⟨h9, d9, e9, M9, f9, v9, z9⟩ := makeNew_eq S0
  refine ⟨h9, d9, fun G => ?_, M9, ⟨v9, z9⟩, fun q hq => (f9 q hq).trans ((r7 q (by omega)).trans ((p7 q (by omega) (by omega)).trans ((r6 q (by omega)).trans ((p6 q (by omega) (by omega)).trans ((r5 q (by omega)).trans ((p5 q (by omega) (by omega)).trans ((r4 q (by omega)).trans ((p4 q (by omega) (by omega)).trans ((r3 q (by omega)).trans ((p3 q (by omega) (by omega)).trans ((r2 q (by omega)).trans ((p2 q (by omega) (by omega)).trans ((r1 q (by omega)).trans ((p1 q (by omega) (by omega)).trans ((r0 q (by omega)).trans ((p0 q (by omega) (by omega)).trans (f0 q (by omega))))))))))))))))))⟩
  rw [e0, zsn]
  unfold FX3_init
  rw [zo_of a0, zsn, q2, q81, q162, u0, w0, zsn, u1, w1, zsn, u2, w2, zsn, u3, w3, zsn, u4, w4, zsn, u5, w5, zsn, u6, w6, zsn, u7, w7, zsn, e9, zsn, zb2n]
theorem new_read (T : zT) (h : zH) (a s : Nat) (hs : s = a + 1) : ∃ h', (∀ {ρ : Type} (G : Nat → zH → Option ρ), ((znw h a 2 [.int 0, .int 0, .null, .null, .null, .int 0, .int 0, .int 0, .int 0]).bind fun h1 => zb2 (FX2_init T a s h1) G) = G (a + 7) h') ∧ RdAt T h' a (fun _ _ => 0) ∧ ∀ q, q < a ∨ a + 6 < q → h' q = h q := by
  subst hs
  obtain ⟨h0, e0, a0, f0⟩ := znw_at h a 2 [.int 0, .int 0, .null, .null, .null, .int 0, .int 0, .int 0, .int 0]
  obtain ⟨n0, u0, N0, p0⟩ := new_num T h0 (a + 1) ((a + 1) + 1) rfl (m := 81) (by omega) (by omega) (z := 81) (by decide)
  obtain ⟨g0, w0, b0, r0⟩ := zpv_at (h := n0) ((p0 a (by omega) (by omega)).trans a0) (k := 2) (Nat.le_of_ble_eq_true rfl) (.ref (a + 1))
  obtain ⟨n1, u1, N1, p1⟩ := new_num T g0 (a + 3) ((a + 3) + 1) rfl (m := 81) (by omega) (by omega) (z := 81) (by decide)
  obtain ⟨g1, w1, b1, r1⟩ := zpv_at (h := n1) ((p1 a (by omega) (by omega)).trans b0) (k := 3) (Nat.le_of_ble_eq_true rfl) (.ref (a + 3))
  obtain ⟨n2, u2, N2, p2⟩ := new_num T g1 (a + 5) ((a + 5) + 1) rfl (m := 81) (by omega) (by omega) (z := 81) (by decide)
  obtain ⟨g2, w2, b2, r2⟩ := zpv_at (h := n2) ((p2 a (by omega) (by omega)).trans b1) (k := 4) (Nat.le_of_ble_eq_true rfl) (.ref (a + 5))
  refine ⟨g2, fun G => ?_, ⟨b2, fun rr ra rb => ?_⟩, fun q hq => (r2 q (by omega)).trans ((p2 q (by omega) (by omega)).trans ((r1 q (by omega)).trans ((p1 q (by omega) (by omega)).trans ((r0 q (by omega)).trans ((p0 q (by omega) (by omega)).trans (f0 q (by omega)))))))⟩
  · rw [e0, zsn]
    unfold FX2_init
    rw [zo_of a0, zsn, q81, u0, w0, zsn, u1, w1, zsn, u2, w2, zsn, zb2n]
  · rcases (show rr = 1 ∨ rr = 2 ∨ rr = 3 by omega) with rfl | rfl | rfl
    · exact (((((N0.kept (r0 _ (by omega)) (r0 _ (by omega))).kept (p1 _ (by omega) (by omega)) (p1 _ (by omega) (by omega))).kept (r1 _ (by omega)) (r1 _ (by omega))).kept (p2 _ (by omega) (by omega)) (p2 _ (by omega) (by omega))).kept (r2 _ (by omega)) (r2 _ (by omega)))
    · exact (((N1.kept (r1 _ (by omega)) (r1 _ (by omega))).kept (p2 _ (by omega) (by omega)) (p2 _ (by omega) (by omega))).kept (r2 _ (by omega)) (r2 _ (by omega)))
    · exact (N2.kept (r2 _ (by omega)) (r2 _ (by omega)))
/-- a shelf whose first i sheets are made -/
def PS (T : zT) (h : zH) (S m i : Nat) : Prop := h S = some (.inr (4, [.ref (S + 1), .ref (S + 2)])) ∧ (∃ g, h (S + 1) = some (.inl (T.2.2.2, m, .inr (.inr (.inr (.inr g))))) ∧ ∀ j, j < i → g j = some (S + 4 + 17 * j)) ∧ Num T h (S + 2) m (fun _ => 0) ∧ ∀ j, j < i → ∃ d, ShAt T h (S + 4 + 17 * j) d
theorem ps_ln {S m i : Nat} (P : PS T h S m i) : zgr h S 4 0 = some (S + 1) ∧ zln T h (S + 1) = some (iZ m) := by
  obtain ⟨a1, ⟨g, a2, -⟩, -, -⟩ := P
  refine ⟨?_, ?_⟩
  · unfold zgr
    rw [zo_of a1]
    rfl
  · unfold zln
    rw [a2]
    show (if T.2.2.2 = T.2.2.2 then _ else _) = _
    rw [if_pos rfl, iZ_nat]
theorem ps_step {S m i : Nat} (P : PS T h S m i) (hi : i < m) (hm : m ≤ 99) (p s : Nat) (hp : p = S + 4 + 17 * i) (hs : s = p + 1) : ∃ h', (∀ {ρ : Type} (x : Int) (G : Nat → zH → Option ρ), x = i → ((znw h p 3 [.int (iZ 0), .int (iZ 0), .int (iZ 0), .int (iZ 0), .null, .null, .null, .null, .null, .null, .null, .null]).bind fun h1 => zb2 (FX3_init T p s h1) fun i2 h2 => (zqs T h2 (S + 1) (iZ x) p).bind fun h3 => G i2 h3) = G (p + 17) h') ∧ PS T h' S m (i + 1) ∧ ∀ q, q < S + 1 ∨ p + 16 < q → h' q = h q := by
  obtain ⟨a1, ⟨g, a2, a3⟩, a4, a5⟩ := P
  obtain ⟨h1, d1, e1, M1, -, f1⟩ := new_sheet T h p s hs
  have b2 : h1 (S + 1) = some (.inl (T.2.2.2, m, .inr (.inr (.inr (.inr g))))) := (f1 _ (by omega)).trans a2
  refine ⟨va_up h1 (S + 1) (some (.inl (T.2.2.2, m, .inr (.inr (.inr (.inr (va_up g i (some p)))))))), fun x G hx => ?_, ⟨?_, ⟨_, va_up_self _ _ _, fun j hj => ?_⟩, ?_, fun j hj => ?_⟩, fun q hq => ?_⟩
  · rw [← q0, e1]
    show ((zqs T h1 (S + 1) (iZ x) p).bind fun h3 => G (p + 17) h3) = _
    have ez : zqs T h1 (S + 1) (iZ x) p = some (va_up h1 (S + 1) (some (.inl (T.2.2.2, m, .inr (.inr (.inr (.inr (va_up g i (some p))))))))) := by
      unfold zqs
      rw [b2]
      show (if T.2.2.2 = T.2.2.2 ∧ zin (iZ x) m ∧ zo h1 p 3 ≠ none then _ else _) = _
      rw [if_pos ⟨rfl, (iZ_in (by omega) (by omega)).mpr ⟨by omega, by omega⟩, by rw [zo_of M1.1]; exact fun c => nomatch c⟩, iZ_clamp (by omega) (by omega), show x.toNat = i from by omega]
    rw [ez, zsn]
  · exact (va_up_ne _ _ (by omega)).trans ((f1 _ (by omega)).trans a1)
  · by_cases c : j = i
    · rw [c, va_up_self, hp]
    · rw [va_up_ne _ _ c]; exact a3 j (by omega)
  · exact (a4.kept (f1 _ (by omega)) (f1 _ (by omega))).kept (va_up_ne _ _ (by omega)) (va_up_ne _ _ (by omega))
  · by_cases c : j = i
    · subst c
      exact ⟨d1, by rw [← hp]; exact M1.kept (fun q q1 q2 => va_up_ne _ _ (by omega))⟩
    · obtain ⟨d, hd⟩ := a5 j (by omega)
      exact ⟨d, (hd.kept (fun q q1 q2 => f1 q (by omega))).kept (fun q q1 q2 => va_up_ne _ _ (by omega))⟩
  · exact (va_up_ne _ _ (by omega)).trans (f1 q (by omega))
theorem ps_all {S m : Nat} (P : PS T h S m m) : ∃ dd, SfAt T h S m dd (fun _ => 0) := by
  obtain ⟨a1, a2, a3, a4⟩ := P
  have key : ∀ i : Nat, i ≤ m → ∃ dd : Nat → Nat → Nat → Int, ∀ j, j < i → ShAt T h (S + 4 + 17 * j) (dd j) := by
    intro i
    induction i with
    | zero => intro _; exact ⟨fun _ _ _ => 0, fun j hj => by omega⟩
    | succ i ih =>
      intro hi
      obtain ⟨dd, hd⟩ := ih (by omega)
      obtain ⟨d, hd2⟩ := a4 i (by omega)
      refine ⟨fun j => if j = i then d else dd j, fun j hj => ?_⟩
      by_cases c : j = i
      · subst c
        show ShAt T h _ (if j = j then d else dd j)
        rw [if_pos rfl]
        exact hd2
      · show ShAt T h _ (if j = i then d else dd j)
        rw [if_neg c]
        exact hd j (by omega)
  obtain ⟨dd, hd⟩ := key m (by omega)
  exact ⟨dd, a1, a2, a3, hd⟩
theorem znq_at (h : zH) (a : Nat) (c : ClassId) {m : Nat} (hm : m ≤ 99999) {z : Int} (hz : z = (m : Int)) : ∃ h', znq c h a (iZ z) = some h' ∧ h' a = some (.inl (c, m, .inr (.inr (.inr (.inr (fun _ => none)))))) ∧ ∀ q, q ≠ a → h' q = h q := by
  refine ⟨va_up h a (some (.inl (c, m, .inr (.inr (.inr (.inr (fun _ => none))))))), ?_, va_up_self _ _ _, fun q hq => va_up_ne _ _ hq⟩
  subst hz
  have e : (iZ (m : Int)).toNatClampNeg = m := by rw [iZ_clamp (by omega) (by omega)]; rfl
  unfold znq
  rw [e, if_neg]
  intro z
  rcases z with z | z
  · rw [q0, iZ_lt (by omega) (by omega) (by omega) (by omega)] at z
    omega
  · omega
/-- the beginning of a shelf -/
theorem ps_0 (T : zT) (h : zH) (S : Nat) (h0 : h S = some (.inr (4, [.null, .null]))) {m : Nat} (m1 : 1 ≤ m) (hm : m ≤ 99) {z : Int} (hz : z = (m : Int)) : ∃ h1 h2 h3 h4, znq T.2.2.2 h (S + 1) (iZ z) = some h1 ∧ zpv h1 S 4 0 (.ref (S + 1)) = some h2 ∧ (∀ {ρ : Type} (G : Nat → zH → Option ρ), ((znw h2 (S + 1 + 1) 1 [.null]).bind fun h9 => zb2 (FX1_init T (S + 1 + 1) (iZ z) (S + 1 + 2) h9) G) = G (S + 1 + 2 + 1) h3) ∧ zpv h3 S 4 1 (.ref (S + 1 + 1)) = some h4 ∧ PS T h4 S m 0 ∧ ∀ q, q < S ∨ S + 3 < q → h4 q = h q := by
  obtain ⟨h1, e1, a1, f1⟩ := znq_at h (S + 1) T.2.2.2 (m := m) (by omega) hz
  obtain ⟨h2, e2, a2, f2⟩ := zpv_at (h := h1) ((f1 S (by omega)).trans h0) (k := 0) (Nat.le_of_ble_eq_true rfl) (.ref (S + 1))
  obtain ⟨h3, e3, N3, f3⟩ := new_num T h2 (S + 1 + 1) (S + 1 + 2) rfl (m := m) m1 (by omega) hz
  obtain ⟨h4, e4, a4, f4⟩ := zpv_at (h := h3) ((f3 S (by omega) (by omega)).trans a2) (k := 1) (Nat.le_of_ble_eq_true rfl) (.ref (S + 1 + 1))
  exact ⟨h1, h2, h3, h4, e1, e2, e3, e4, ⟨a4, ⟨_, (f4 _ (by omega)).trans ((f3 _ (by omega) (by omega)).trans ((f2 _ (by omega)).trans a1)), fun j hj => by omega⟩, N3.kept (f4 _ (by omega)) (f4 _ (by omega)), fun j hj => by omega⟩, fun q hq => (f4 q (by omega)).trans ((f3 q (by omega) (by omega)).trans ((f2 q (by omega)).trans (f1 q (by omega))))⟩
theorem new_shelf2 (T : zT) (h : zH) (S : Nat) : ∃ h' dd, (∀ {ρ : Type} (G : Nat → zH → Option ρ), ((znw h S 4 [.null, .null]).bind fun h1 => zb2 (FX4_init2 T S (S + 1) h1) G) = G (S + 4 + 17 * 2) h') ∧ SfAt T h' S 2 dd (fun _ => 0) ∧ ∀ q, q < S ∨ S + 4 + 17 * 2 ≤ q → h' q = h q := by
  obtain ⟨h0, e0, a0, f0⟩ := znw_at h S 4 [.null, .null]
  obtain ⟨k1, k2, k3, s0, u1, u2, u3, u4, P0, p0⟩ := ps_0 T h0 S a0 (m := 2) (by omega) (by omega) (z := 2) (by decide)
  obtain ⟨s1, w1, P1, p1⟩ := ps_step P0 (by omega) (by omega) (S + 1 + 2 + 1) ((S + 1 + 2 + 1) + 1) (by omega) rfl
  obtain ⟨c0, l0⟩ := ps_ln P0
  obtain ⟨s2, w2, P2, p2⟩ := ps_step P1 (by omega) (by omega) ((S + 1 + 2 + 1) + 17) (((S + 1 + 2 + 1) + 17) + 1) (by omega) rfl
  obtain ⟨c1, l1⟩ := ps_ln P1
  obtain ⟨c2, l2⟩ := ps_ln P2
  obtain ⟨dd, hd⟩ := ps_all P2
  refine ⟨s2, dd, fun G => ?_, hd, fun q hq => (p2 q (by omega)).trans ((p1 q (by omega)).trans ((p0 q (by omega)).trans (f0 q (by omega))))⟩
  rw [e0, zsn]
  unfold FX4_init2
  rw [zo_of a0, zsn, q2, q0, if_neg (show ¬ iZ 2 ≤ iZ 0 by decide), u1, zsn, u2, zsn, u3, u4, zsn]
  rw [c0, zsn, l0, zsn]
  rw [if_neg (by decide), zsn, w1 _ _ (by decide)]
  rw [c1, zsn, l1, zsn]
  rw [q1]
  rw [iZ_add]
  rw [if_neg (by decide), zsn, w2 _ _ (by decide)]
  rw [c2, zsn, l2, zsn]
  rw [iZ_add, if_pos (by decide), zb2n]
end Nw
