/-! the reference notes the page in its diary -/
section Nt
variable {T : zT} {h : zH} {m : Nat} {v r D : Nat → Int}
theorem noteTail_eq (hM : MoAt h m v) (hA : Arr T h (m + 3) 739 r) (hD : Arr T h (m + 6) 10346 D) (c1 : 0 ≤ v 9) (c2 : v 9 < 14) : ∃ h', ((zgr h m 7 5).bind fun x3 => (zgr h m 7 8).bind fun x4 => (zgi h m 7 9).bind fun x5 => (FX7_copyPage T x3 (iZ 0) x4 (iZ 739 * x5) h).bind fun h7 => (zgi h7 m 7 9).bind fun x8 => (zpv h7 m 7 9 (.int (x8 + iZ 1))).bind fun h9 => some h9) = some h' ∧ MoAt h' m (upZ v 9 (v 9 + 1)) ∧ Arr T h' (m + 6) 10346 (cpy r D 0 (739 * (v 9).toNat) 739) ∧ ∀ q, q ≠ m → q ≠ m + 6 → h' q = h q := by
  obtain ⟨g1, e1, A1, f1⟩ := copy_eq hA hD (by omega) (p := 0) (q := 739 * (v 9).toNat) (by omega) (by omega) (by omega) (by omega)
  have M1 : MoAt g1 m v := mo_kept hM (f1 m (by omega))
  obtain ⟨g2, e2, M2, f2⟩ := mo_set M1 (k := 9) (by omega) (v 9 + 1)
  refine ⟨g2, ?_, M2, A1.kept (f2 _ (by omega)), fun q q1 q2 => (f2 q q1).trans (f1 q q2)⟩
  have e1' : FX7_copyPage T (m + 3) (iZ 0) (m + 6) (iZ (739 * v 9)) h = some g1 := by
    rw [show 739 * v 9 = ((739 * (v 9).toNat : Nat) : Int) by omega]
    exact e1
  rw [mo_r5 hM, zsn, mo_r8 hM, zsn, mo_g9 hM, zsn, iZ_mul, e1', zsn, mo_g9 M1, zsn, iZ_add, e2, zsn]
theorem shift_eq (hM : MoAt h m v) (hD : Arr T h (m + 6) 10346 D) {ρ : Type} (K : zH → Option ρ) : ∃ h', LX7_note_11 T m K FUEL (iZ 0) h = K h' ∧ Arr T h' (m + 6) 10346 (fun j => if j < 9607 then D (j + 739) else D j) ∧ ∀ q, q ≠ m + 6 → h' q = h q := by
  refine Exists.elim (loop_inv0 (L := LX7_note_11 T m K) (K := K) (I := fun i g => Arr T g (m + 6) 10346 (fun j => if j < i then D (j + 739) else D j) ∧ ∀ q, q ≠ m + 6 → g q = h q) (n := 9607) (by omega) (fun k i g hi hI => ?_) (fun k g hI => ?_) (h := h) ⟨hD.cong (fun j => ?_), fun _ _ => rfl⟩) ?_
  · obtain ⟨A1, f1⟩ := hI
    have M1 : MoAt g m v := mo_kept hM (f1 m (by omega))
    have z1 : zai T g (m + 6) (iZ ((i : Int) + 739)) = some (iZ (D (i + 739))) := by
      rw [zai_Arr A1 (by omega) (by omega) (by omega), show ((i : Int) + 739).toNat = i + 739 by omega, if_neg (by omega)]
    obtain ⟨g2, e2, A2, f2⟩ := zas_Arr (v := D (i + 739)) A1 (i := i) (by omega) (by omega) (by omega)
    refine ⟨g2, ?_, A2.cong (fun j => ?_), fun q hq => (f2 q hq).trans (f1 q hq)⟩
    · rw [LX7_note_11.eq_2, if_neg (by rw [q9607, iZ_le (by omega) (by omega) (by omega) (by omega)]; omega), mo_r8 M1, zsn, zsn, q739, iZ_add, z1, zsn, e2, zsn, q1, iZ_add]
    · by_cases c : j = i
      · rw [upZ_eq _ _ (by omega), if_pos (by omega), c]
      · rw [upZ_ne _ _ (by omega)]
        by_cases c2 : j < i
        · rw [if_pos c2, if_pos (by omega)]
        · rw [if_neg c2, if_neg (by omega)]
  · rw [LX7_note_11.eq_2, if_pos (by rw [q9607]; exact Int32.le_refl _)]
  · rw [if_neg (by omega)]
  · rintro g ⟨e, A1, f1⟩
    exact ⟨g, e, A1, f1⟩
theorem note_eq (hM : MoAt h m v) (hA : Arr T h (m + 3) 739 r) (hD : Arr T h (m + 6) 10346 D) (c1 : 0 ≤ v 9) (c2 : v 9 ≤ 14) : ∃ h' v' D', FX7_note T m h = some h' ∧ MoAt h' m v' ∧ v' 9 = (if 14 < v 9 + 1 then 14 else v 9 + 1) ∧ (∀ j, j ≠ 9 → v' j = v j) ∧ Arr T h' (m + 6) 10346 D' ∧ (∀ q : Nat, q < 739 → D' (739 * (if v 9 = 14 then 13 else (v 9).toNat) + q) = r q) ∧ (∀ t q : Nat, q < 739 → (t : Int) + (if v 9 = 14 then 1 else 0) < v 9 → D' (739 * t + q) = D (739 * (t + (if v 9 = 14 then 1 else 0)) + q)) ∧ ∀ q, q ≠ m → q ≠ m + 6 → h' q = h q := by
  unfold FX7_note
  rw [mo_zo hM, zsn]
  simp only [zJn]
  rw [mo_g9 hM, zsn, q14, q739, q0, q1]
  by_cases c : v 9 = 14
  · rw [if_pos (by rw [c])]
    obtain ⟨g1, e1, A1, f1⟩ := shift_eq hM hD (fun (h18 : zH) => (zgi h18 m 7 9).bind fun x19 => (zpv h18 m 7 9 (.int (x19 - iZ 1))).bind fun h20 => (zgr h20 m 7 5).bind fun x3 => (zgr h20 m 7 8).bind fun x4 => (zgi h20 m 7 9).bind fun x5 => (FX7_copyPage T x3 (iZ 0) x4 (iZ 739 * x5) h20).bind fun h7 => (zgi h7 m 7 9).bind fun x8 => (zpv h7 m 7 9 (.int (x8 + iZ 1))).bind fun h9 => some h9)
    have M1 : MoAt g1 m v := mo_kept hM (f1 m (by omega))
    obtain ⟨g2, e2, M2, f2⟩ := mo_set M1 (k := 9) (by omega) (v 9 - 1)
    have z9 : upZ v 9 (v 9 - 1) 9 = v 9 - 1 := upZ_self _ _ _
    obtain ⟨g3, e3, M3, A3, f3⟩ := noteTail_eq M2 (hA.kept ((f2 _ (by omega)).trans (f1 _ (by omega)))) (A1.kept (f2 _ (by omega))) (by omega) (by omega)
    refine ⟨g3, _, _, ?_, M3, ?_, fun j hj => ?_, A3, fun q hq => ?_, fun t q hq ht => ?_, fun q q1 q2 => (f3 q q1 q2).trans ((f2 q q1).trans (f1 q q2))⟩
    · rw [e1, mo_g9 M1, zsn, iZ_sub, e2, zsn, e3]
    · rw [upZ_self, z9]; omega
    · rw [upZ_ne _ _ hj, upZ_ne _ _ hj]
    · unfold cpy
      rw [if_pos c, z9, if_pos (by omega)]
      congr 1
      omega
    · rw [if_pos c] at ht
      unfold cpy
      rw [if_pos c, z9, if_neg (by omega)]
      show (if 739 * t + q < 9607 then D (739 * t + q + 739) else D (739 * t + q)) = _
      rw [if_pos (by omega)]
      congr 1
      omega
  · rw [if_neg (by rw [iZ_eq (by omega) (by omega) (by omega) (by omega)]; exact c)]
    obtain ⟨g3, e3, M3, A3, f3⟩ := noteTail_eq hM hA hD c1 (by omega)
    rw [mo_g9 hM] at e3
    refine ⟨g3, _, _, e3, M3, ?_, fun j hj => upZ_ne _ _ hj, A3, fun q hq => ?_, fun t q hq ht => ?_, f3⟩
    · rw [upZ_self]; omega
    · unfold cpy
      rw [if_neg c, if_pos (by omega)]
      congr 1
      omega
    · rw [if_neg c] at ht
      unfold cpy
      rw [if_neg c, if_neg (by omega), Nat.add_zero]
end Nt
