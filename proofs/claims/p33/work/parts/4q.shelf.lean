/-! CrossedSheet$Shelf: sheets in a row, which of them are filled -/
def SfAt (T : zT) (h : zH) (S n : Nat) (dd : Nat → Nat → Nat → Int) (fl : Nat → Int) : Prop := h S = some (.inr (4, [.ref (S + 1), .ref (S + 2)])) ∧ (∃ g, h (S + 1) = some (.inl (T.2.2.2, n, .inr (.inr (.inr (.inr g))))) ∧ ∀ i, i < n → g i = some (S + 4 + 17 * i)) ∧ Num T h (S + 2) n fl ∧ ∀ i, i < n → ShAt T h (S + 4 + 17 * i) (dd i)
def ddup (dd : Nat → Nat → Nat → Int) (i : Nat) (d : Nat → Nat → Int) : Nat → Nat → Nat → Int := fun j => if j = i then d else dd j
def offF (S n : Nat) (h h' : zH) : Prop := ∀ q, q < S ∨ S + 4 + 17 * n ≤ q → h' q = h q
section Sf
variable {T : zT} {h h' : zH} {S n c : Nat} {dd : Nat → Nat → Nat → Int} {fl : Nat → Int} {e : Nat → Nat → Int}
theorem offF.refl : offF S n h h := fun _ _ => rfl
theorem offF.trans {h1 h2 : zH} (a : offF S n h h1) (b : offF S n h1 h2) : offF S n h h2 := fun q hq => (b q hq).trans (a q hq)
theorem SfAt.kept (hF : SfAt T h S n dd fl) (k : ∀ q, S ≤ q → q < S + 4 + 17 * n → h' q = h q) (hn : 0 < n) : SfAt T h' S n dd fl := by
  obtain ⟨a, ⟨g, b1, b2⟩, c, d⟩ := hF
  exact ⟨(k _ (by omega) (by omega)).trans a, ⟨g, (k _ (by omega) (by omega)).trans b1, b2⟩, c.kept (k _ (by omega) (by omega)) (k _ (by omega) (by omega)), fun i hi => (d i hi).kept (fun q q1 q2 => k q (by omega) (by omega))⟩
theorem sf_zo (hF : SfAt T h S n dd fl) : zo h S 4 = some [.ref (S + 1), .ref (S + 2)] := zo_of hF.1
theorem sf_r0 (hF : SfAt T h S n dd fl) : zgr h S 4 0 = some (S + 1) := by unfold zgr; rw [sf_zo hF]; rfl
theorem sf_r1 (hF : SfAt T h S n dd fl) : zgr h S 4 1 = some (S + 2) := by unfold zgr; rw [sf_zo hF]; rfl
theorem sf_ln (hF : SfAt T h S n dd fl) : zln T h (S + 1) = some (iZ n) := by
  obtain ⟨-, ⟨g, b1, -⟩, -⟩ := hF
  unfold zln
  rw [b1]
  show (if T.2.2.2 = T.2.2.2 then _ else _) = _
  rw [if_pos rfl, iZ_nat]
theorem sf_qi (hF : SfAt T h S n dd fl) (hn : n < 99) {i : Int} (i1 : 0 ≤ i) (i2 : i < n) : zqi T h (S + 1) (iZ i) = some (some (S + 4 + 17 * i.toNat)) := by
  obtain ⟨-, ⟨g, b1, b2⟩, -⟩ := hF
  unfold zqi
  rw [b1]
  show (if T.2.2.2 = T.2.2.2 ∧ zin (iZ i) n then _ else _) = _
  rw [if_pos ⟨rfl, (iZ_in (by omega) (by omega)).mpr ⟨i1, i2⟩⟩, iZ_clamp (by omega) (by omega), b2 _ (by omega)]
theorem sheetAt_in (hF : SfAt T h S n dd fl) (hn : n < 99) {i : Int} (i1 : 0 ≤ i) (i2 : i < n) : FX4_sheetAt T S (iZ i) h = some (some (S + 4 + 17 * i.toNat)) := by
  unfold FX4_sheetAt
  rw [sf_zo hF, zsn]
  simp only [zJn]
  rw [q0, if_neg (by rw [iZ_lt (by omega) (by omega) (by omega) (by omega)]; omega), sf_r0 hF, zsn, sf_ln hF, zsn, if_neg (by rw [iZ_le (by omega) (by omega) (by omega) (by omega)]; omega), zsn, sf_qi hF hn i1 i2, zsn]
theorem holds_eq (hF : SfAt T h S n dd fl) (hn : n < 99) {i : Int} (i1 : 0 ≤ i) (i2 : i < n) (h01 : fl i.toNat = 0 ∨ fl i.toNat = 1) : FX4_holds T S (iZ i) h = some (iZ (fl i.toNat)) := by
  unfold FX4_holds
  rw [sf_zo hF, zsn]
  simp only [zJn]
  rw [sf_r1 hF, zsn, at_in hF.2.2.1 (by omega) i1 i2, zsn, q1]
  rcases h01 with z | z
  · rw [z, if_neg (by decide), q0, if_pos (Or.inl trivial)]
  · rw [z, if_pos rfl, if_pos (Or.inr trivial)]
theorem store_eq (hF : SfAt T h S n dd fl) (hn : n < 99) {i : Int} (i1 : 0 ≤ i) (i2 : i < n) (hC : ShAt T h c e) (hd : c + 16 < S ∨ S + 4 + 17 * n ≤ c) : ∃ h' d', FX4_store T S (iZ i) c h = some h' ∧ SfAt T h' S n (ddup dd i.toNat d') (upZ fl i.toNat 1) ∧ SameD e d' ∧ offF S n h h' := by
  have hi : i.toNat < n := by omega
  obtain ⟨h1, d', e1, s1, hs, f1⟩ := takeFrom_eq (hF.2.2.2 i.toNat hi) hC (by omega)
  have k1 : ∀ q, q < S + 4 → h1 q = h q := fun q hq => f1 q (by omega)
  have N1 : Num T h1 (S + 2) n fl := hF.2.2.1.kept (k1 _ (by omega)) (k1 _ (by omega))
  obtain ⟨h2, e2, N2, f2⟩ := put_in (v := 1) N1 (by omega) i1 i2
  refine ⟨h2, d', ?_, ?_, hs, fun q hq => (f2 q (by omega)).trans (f1 q (by omega))⟩
  · have r1 : zgr h1 S 4 1 = some (S + 2) := (zgr_kept (k1 S (by omega))).trans (sf_r1 hF)
    unfold FX4_store
    rw [sf_zo hF, zsn]
    simp only [zJn]
    rw [sheetAt_in hF hn i1 i2, zsn]
    show ((FX3_takeFrom T (S + 4 + 17 * i.toNat) c h).bind fun h7 => _) = _
    rw [e1, zsn, r1, zsn, q1, e2, zsn]
  · obtain ⟨a, ⟨g, b1, b2⟩, -, sh⟩ := hF
    refine ⟨((f2 S (by omega)).trans (k1 S (by omega))).trans a, ⟨g, ((f2 _ (by omega)).trans (k1 _ (by omega))).trans b1, b2⟩, N2, fun j hj => ?_⟩
    unfold ddup
    by_cases cj : j = i.toNat
    · rw [if_pos cj, cj]
      exact s1.kept (fun q q1 q2 => f2 q (by omega))
    · rw [if_neg cj]
      exact (sh j hj).kept (fun q q1 q2 => (f2 q (by omega)).trans (f1 q (by omega)))
theorem fetch_eq (hF : SfAt T h S n dd fl) (hn : n < 99) {i : Int} (i1 : 0 ≤ i) (i2 : i < n) (h1 : fl i.toNat = 1) (hC : ShAt T h c e) (hd : c + 16 < S ∨ S + 4 + 17 * n ≤ c) : ∃ h' d', FX4_fetch T S (iZ i) c h = some h' ∧ ShAt T h' c d' ∧ SameD (dd i.toNat) d' ∧ offS c h h' := by
  obtain ⟨g1, d', e1, s1, hs, f1⟩ := takeFrom_eq hC (hF.2.2.2 i.toNat (by omega)) (by omega)
  refine ⟨g1, d', ?_, s1, hs, f1⟩
  unfold FX4_fetch
  rw [sf_zo hF, zsn]
  simp only [zJn]
  rw [sheetAt_in hF hn i1 i2, zsn]
  show ((FX4_holds T S (iZ i) h).bind fun x7 => _) = _
  rw [holds_eq hF hn i1 i2 (Or.inr h1), zsn, h1, q0, if_neg (by decide), e1, zsn]
theorem clear4_eq (hF : SfAt T h S n dd fl) (hn : n < 99) : ∃ h' fl', FX4_clear T S h = some h' ∧ SfAt T h' S n dd fl' ∧ (∀ j, j < n → fl' j = 0) ∧ offF S n h h' := by
  obtain ⟨h1, f', e1, n1, v1, k1⟩ := fill_ok hF.2.2.1 (by omega) 0
  refine ⟨h1, f', ?_, ?_, v1, fun q hq => k1 q (by omega)⟩
  · unfold FX4_clear
    rw [sf_zo hF, zsn, sf_r1 hF, zsn, q0, e1, zsn]
  · obtain ⟨a, ⟨g, b1, b2⟩, -, sh⟩ := hF
    exact ⟨(k1 _ (by omega)).trans a, ⟨g, (k1 _ (by omega)).trans b1, b2⟩, n1, fun j hj => (sh j hj).kept (fun q q1 q2 => k1 q (by omega))⟩
end Sf
