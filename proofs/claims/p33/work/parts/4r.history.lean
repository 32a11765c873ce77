/-! the ring of 14 sheets and the diary of 14 pages -/
theorem q14 : (14 : Int32) = iZ 14 := rfl
theorem q9607 : (9607 : Int32) = iZ 9607 := rfl
def HsAt (T : zT) (h : zH) (H : Nat) (cnt nxt : Int) (dd : Nat → Nat → Nat → Int) (fl : Nat → Int) : Prop := h H = some (.inr (0, [.int (iZ cnt), .int (iZ nxt), .ref (H + 1)])) ∧ SfAt T h (H + 1) 14 dd fl
def offH (H : Nat) (h h' : zH) : Prop := ∀ q, q < H ∨ H + 243 ≤ q → h' q = h q
def slt (cnt nxt : Int) (t : Nat) : Nat := ((nxt + 14 - cnt + t) % 14).toNat
section Hs
variable {T : zT} {hz h : zH} {H P : Nat} {cnt nxt : Int} {dd : Nat → Nat → Nat → Int} {fl : Nat → Int} {e : Nat → Nat → Int}
theorem hs_zo (hH : HsAt T h H cnt nxt dd fl) : zo h H 0 = some [.int (iZ cnt), .int (iZ nxt), .ref (H + 1)] := zo_of hH.1
theorem hs_g0 (hH : HsAt T h H cnt nxt dd fl) : zgi h H 0 0 = some (iZ cnt) := by unfold zgi; rw [hs_zo hH]; rfl
theorem hs_g1 (hH : HsAt T h H cnt nxt dd fl) : zgi h H 0 1 = some (iZ nxt) := by unfold zgi; rw [hs_zo hH]; rfl
theorem hs_r2 (hH : HsAt T h H cnt nxt dd fl) : zgr h H 0 2 = some (H + 1) := by unfold zgr; rw [hs_zo hH]; rfl
theorem hs_s0 (hH : HsAt T h H cnt nxt dd fl) (x : Int) : ∃ h', zpv h H 0 0 (.int (iZ x)) = some h' ∧ HsAt T h' H x nxt dd fl ∧ ∀ q, q ≠ H → h' q = h q :=
  ⟨_, by unfold zpv; rw [hs_zo hH]; rfl, ⟨va_up_self _ _ _, hH.2.kept (fun q q1 q2 => va_up_ne _ _ (by omega)) (by omega)⟩, fun q hq => va_up_ne _ _ hq⟩
theorem hs_s1 (hH : HsAt T h H cnt nxt dd fl) (x : Int) : ∃ h', zpv h H 0 1 (.int (iZ x)) = some h' ∧ HsAt T h' H cnt x dd fl ∧ ∀ q, q ≠ H → h' q = h q :=
  ⟨_, by unfold zpv; rw [hs_zo hH]; rfl, ⟨va_up_self _ _ _, hH.2.kept (fun q q1 q2 => va_up_ne _ _ (by omega)) (by omega)⟩, fun q hq => va_up_ne _ _ hq⟩
theorem remember_eq (hH : HsAt T h H cnt nxt dd fl) (c1 : 0 ≤ cnt) (c2 : cnt ≤ 14) (n1 : 0 ≤ nxt) (n2 : nxt < 14) (hC : ShAt T h P e) (hd : P + 16 < H ∨ H + 243 ≤ P) : ∃ h' d', FX0_remember T H P h = some h' ∧ HsAt T h' H (if 14 < cnt + 1 then 14 else cnt + 1) ((nxt + 1) % 14) (ddup dd nxt.toNat d') (upZ fl nxt.toNat 1) ∧ SameD e d' ∧ offH H h h' := by
  obtain ⟨g1, d', e1, s1, hs, f1⟩ := store_eq hH.2 (by omega) n1 n2 hC (by omega)
  have H1 : HsAt T g1 H cnt nxt (ddup dd nxt.toNat d') (upZ fl nxt.toNat 1) := ⟨(f1 H (by omega)).trans hH.1, s1⟩
  obtain ⟨g2, e2, H2, f2⟩ := hs_s1 H1 ((nxt + 1) % 14)
  obtain ⟨g3, e3, H3, f3⟩ := hs_s0 H2 (if 14 < cnt + 1 then 14 else cnt + 1)
  refine ⟨g3, d', ?_, H3, hs, fun q hq => (f3 q (by omega)).trans ((f2 q (by omega)).trans (f1 q (by omega)))⟩
  unfold FX0_remember
  have ei : (if iZ 14 < iZ (cnt + 1) then iZ 14 else iZ (cnt + 1)) = iZ (if 14 < cnt + 1 then 14 else cnt + 1) := by
    by_cases c : 14 < cnt + 1
    · rw [if_pos c, if_pos (by rw [iZ_lt (by omega) (by omega) (by omega) (by omega)]; exact c)]
    · rw [if_neg c, if_neg (by rw [iZ_lt (by omega) (by omega) (by omega) (by omega)]; exact c)]
  rw [hs_zo hH, zsn, hs_r2 hH, zsn, hs_g1 hH, zsn, e1, zsn, hs_g1 H1, zsn, q1, iZ_add, q14, zremI_iZ (by omega) (by omega) (by omega) (by omega), zsn, e2, zsn, hs_g0 H2, zsn, iZ_add, ei, e3, zsn]
theorem takeBack_eq (hH : HsAt T h H cnt nxt dd fl) (c1 : 0 < cnt) (c2 : cnt ≤ 14) (n1 : 0 ≤ nxt) (n2 : nxt < 14) (hf : fl ((nxt + 13) % 14).toNat = 1) (hC : ShAt T h P e) (hd : P + 16 < H ∨ H + 243 ≤ P) : ∃ h' d', FX0_takeBack T H P h = some h' ∧ HsAt T h' H (cnt - 1) ((nxt + 13) % 14) dd fl ∧ ShAt T h' P d' ∧ SameD (dd ((nxt + 13) % 14).toNat) d' ∧ ∀ q, q ≠ H → (q < P ∨ P + 16 < q) → h' q = h q := by
  obtain ⟨g1, e1, H1, f1⟩ := hs_s1 hH ((nxt + 13) % 14)
  obtain ⟨g2, e2, H2, f2⟩ := hs_s0 H1 (cnt - 1)
  have C2 : ShAt T g2 P e := hC.kept (fun q q1 q2 => (f2 q (by omega)).trans (f1 q (by omega)))
  obtain ⟨g3, d', e3, s3, hs, f3⟩ := fetch_eq H2.2 (by omega) (i := (nxt + 13) % 14) (by omega) (by omega) hf C2 (by omega)
  refine ⟨g3, d', ?_, ⟨(f3 H (by omega)).trans H2.1, H2.2.kept (fun q q1 q2 => f3 q (by omega)) (by omega)⟩, s3, hs, fun q q1 q2 => (f3 q q2).trans ((f2 q q1).trans (f1 q q1))⟩
  unfold FX0_takeBack
  rw [hs_zo hH, zsn]
  simp only [zJn]
  rw [hs_g0 hH, zsn, q0, if_neg (by rw [iZ_le (by omega) (by omega) (by omega) (by omega)]; omega), hs_g1 hH, zsn, q14, q1, iZ_add, iZ_sub, show nxt + 14 - 1 = nxt + 13 by omega, zremI_iZ (by omega) (by omega) (by omega) (by omega), zsn, e1, zsn, hs_g0 H1, zsn, iZ_sub, e2, zsn, hs_r2 H2, zsn, hs_g1 H2, zsn, e3, zsn]
end Hs