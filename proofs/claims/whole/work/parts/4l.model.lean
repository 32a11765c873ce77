/-! the reference's object; the sign of a letter in a cell -/
def MoAt (h : zH) (m : Nat) (v : Nat → Int) : Prop := h m = some (.inr (7, [.int (iZ (v 0)), .ref (m + 1), .int (iZ (v 2)), .int (iZ (v 3)), .ref (m + 2), .ref (m + 3), .ref (m + 4), .ref (m + 5), .ref (m + 6), .int (iZ (v 9)), .ref (m + 7), .ref (m + 8), .ref (m + 9), .ref (m + 10), .ref (m + 11), .int (iZ (v 15)), .int (iZ (v 16)), .ref (m + 12), .ref (m + 13)]))
section Mo
variable {h h' : zH} {m : Nat} {v : Nat → Int}
theorem mo_zo (hM : MoAt h m v) : zo h m 7 = some [.int (iZ (v 0)), .ref (m + 1), .int (iZ (v 2)), .int (iZ (v 3)), .ref (m + 2), .ref (m + 3), .ref (m + 4), .ref (m + 5), .ref (m + 6), .int (iZ (v 9)), .ref (m + 7), .ref (m + 8), .ref (m + 9), .ref (m + 10), .ref (m + 11), .int (iZ (v 15)), .int (iZ (v 16)), .ref (m + 12), .ref (m + 13)] := zo_of hM
theorem mo_ex (hM : MoAt h m v) : ∃ fs, zo h m 7 = some fs := ⟨_, mo_zo hM⟩
theorem mo_kept (hM : MoAt h m v) (e : h' m = h m) : MoAt h' m v := e.trans hM
theorem mo_g0 (hM : MoAt h m v) : zgi h m 7 0 = some (iZ (v 0)) := by unfold zgi; rw [mo_zo hM]; rfl
theorem mo_g2 (hM : MoAt h m v) : zgi h m 7 2 = some (iZ (v 2)) := by unfold zgi; rw [mo_zo hM]; rfl
theorem mo_g3 (hM : MoAt h m v) : zgi h m 7 3 = some (iZ (v 3)) := by unfold zgi; rw [mo_zo hM]; rfl
theorem mo_g9 (hM : MoAt h m v) : zgi h m 7 9 = some (iZ (v 9)) := by unfold zgi; rw [mo_zo hM]; rfl
theorem mo_g15 (hM : MoAt h m v) : zgi h m 7 15 = some (iZ (v 15)) := by unfold zgi; rw [mo_zo hM]; rfl
theorem mo_g16 (hM : MoAt h m v) : zgi h m 7 16 = some (iZ (v 16)) := by unfold zgi; rw [mo_zo hM]; rfl
theorem mo_r1 (hM : MoAt h m v) : zgr h m 7 1 = some (m + 1) := by unfold zgr; rw [mo_zo hM]; rfl
theorem mo_r4 (hM : MoAt h m v) : zgr h m 7 4 = some (m + 2) := by unfold zgr; rw [mo_zo hM]; rfl
theorem mo_r5 (hM : MoAt h m v) : zgr h m 7 5 = some (m + 3) := by unfold zgr; rw [mo_zo hM]; rfl
theorem mo_r6 (hM : MoAt h m v) : zgr h m 7 6 = some (m + 4) := by unfold zgr; rw [mo_zo hM]; rfl
theorem mo_r7 (hM : MoAt h m v) : zgr h m 7 7 = some (m + 5) := by unfold zgr; rw [mo_zo hM]; rfl
theorem mo_r8 (hM : MoAt h m v) : zgr h m 7 8 = some (m + 6) := by unfold zgr; rw [mo_zo hM]; rfl
theorem mo_r10 (hM : MoAt h m v) : zgr h m 7 10 = some (m + 7) := by unfold zgr; rw [mo_zo hM]; rfl
theorem mo_r11 (hM : MoAt h m v) : zgr h m 7 11 = some (m + 8) := by unfold zgr; rw [mo_zo hM]; rfl
theorem mo_r12 (hM : MoAt h m v) : zgr h m 7 12 = some (m + 9) := by unfold zgr; rw [mo_zo hM]; rfl
theorem mo_r13 (hM : MoAt h m v) : zgr h m 7 13 = some (m + 10) := by unfold zgr; rw [mo_zo hM]; rfl
theorem mo_r14 (hM : MoAt h m v) : zgr h m 7 14 = some (m + 11) := by unfold zgr; rw [mo_zo hM]; rfl
theorem mo_r17 (hM : MoAt h m v) : zgr h m 7 17 = some (m + 12) := by unfold zgr; rw [mo_zo hM]; rfl
theorem mo_r18 (hM : MoAt h m v) : zgr h m 7 18 = some (m + 13) := by unfold zgr; rw [mo_zo hM]; rfl
theorem mo_set (hM : MoAt h m v) {k : Nat} (hk : k = 0 ∨ k = 2 ∨ k = 3 ∨ k = 9 ∨ k = 15 ∨ k = 16) (x : Int) : ∃ h', zpv h m 7 k (.int (iZ x)) = some h' ∧ MoAt h' m (upZ v k x) ∧ ∀ q, q ≠ m → h' q = h q := by
  rcases hk with rfl | rfl | rfl | rfl | rfl | rfl
  · exact ⟨_, by unfold zpv; rw [mo_zo hM]; rfl, va_up_self _ _ _, fun q hq => va_up_ne _ _ hq⟩
  · exact ⟨_, by unfold zpv; rw [mo_zo hM]; rfl, va_up_self _ _ _, fun q hq => va_up_ne _ _ hq⟩
  · exact ⟨_, by unfold zpv; rw [mo_zo hM]; rfl, va_up_self _ _ _, fun q hq => va_up_ne _ _ hq⟩
  · exact ⟨_, by unfold zpv; rw [mo_zo hM]; rfl, va_up_self _ _ _, fun q hq => va_up_ne _ _ hq⟩
  · exact ⟨_, by unfold zpv; rw [mo_zo hM]; rfl, va_up_self _ _ _, fun q hq => va_up_ne _ _ hq⟩
  · exact ⟨_, by unfold zpv; rw [mo_zo hM]; rfl, va_up_self _ _ _, fun q hq => va_up_ne _ _ hq⟩
end Mo
section Si
variable {T : zT} {h : zH} {a : Nat} {r : Nat → Int} {d : Nat → Nat → Int}
theorem signIn_eq (hA : Arr T h a 739 r) (hP : Pg d r) (hO : OkD d) {x y L : Int} (g : inG d x y) (hL : L = 0 ∨ L = 1) : FX7_signIn T a (iZ (cel x y)) (iZ L) h = some (iZ (sAt d L x y)) := by
  have hcn := hO.cn g
  have ho := own_in hO g
  have b0 : ownof d x y 0 = own d x y := if_pos (Or.inl rfl)
  have b1 : ownof d x y 1 = if own d x y = -9 then -9 else 1 - own d x y := by
    unfold ownof
    by_cases c : own d x y = -9
    · rw [if_pos (Or.inr c), if_pos c, c]
    · rw [if_neg (by omega), if_neg c]
  unfold FX7_signIn
  rw [q0]
  refine Or.elim (loop_find (L := LX7_signIn_2 T h a (iZ (cel x y)) (iZ L) (fun (x9 : Int32) => (FX7_markAt T (iZ (cel x y)) x9 h).bind fun x11 => (zai T h a x11).bind fun x12 => some x12) (fun (u9 : Unit) => some (-9 : Int32))) (K0 := fun i => (FX7_markAt T (iZ (cel x y)) (iZ i) h).bind fun x11 => (zai T h a x11).bind fun x12 => some x12) (K1 := some (iZ (-9))) (P := fun i => ownof d x y i = L) (n := (cn d x y).toNat) (by omega) (fun k i hi => ?_) (fun k => ?_)) ?_ ?_
  · have hb := belongs_eq hA hP hO g (i := i) (by omega) (by omega)
    have hi2 := ownof_in hO (i := (i : Int)) g
    rw [LX7_signIn_2.eq_2, zai_c hA hP.1 hO g, zsn, if_neg (by rw [iZ_le (by omega) (by omega) (by omega) (by omega)]; omega), hb, zsn]
    by_cases c : ownof d x y i = L
    · exact Or.inl ⟨c, by rw [if_pos (by rw [c])]⟩
    · exact Or.inr ⟨c, by rw [if_neg (by rw [iZ_eq (by omega) (by omega) (by omega) (by omega)]; exact c), q1, iZ_add]⟩
  · rw [LX7_signIn_2.eq_2, zai_c hA hP.1 hO g, zsn, if_pos (by rw [iZ_le (by omega) (by omega) (by omega) (by omega)]; omega)]
    rfl
  · rintro ⟨i, hi, hp, hq, e⟩
    obtain ⟨m5, -⟩ := zai_m hA hP.1 hO g (i := i) (by omega) (by omega)
    rw [e, markAt_eq, zsn, m5, zsn]
    congr 2
    unfold sAt
    rcases (show i = 0 ∨ i = 1 by omega) with rfl | rfl
    · rw [show ((0 : Nat) : Int) = 0 from rfl, b0] at hp
      rw [if_pos hp, if_pos (by omega)]
      rfl
    · have h0 := hq 0 (by omega)
      rw [show ((0 : Nat) : Int) = 0 from rfl, b0] at h0
      rw [show ((1 : Nat) : Int) = 1 from rfl, b1] at hp
      have c9 : own d x y ≠ -9 := fun c => by rw [if_pos c] at hp; omega
      rw [if_neg h0, if_neg c9, if_pos (by omega)]
      rfl
  · rintro ⟨hq, e⟩
    rw [e]
    congr 2
    unfold sAt
    by_cases c : own d x y = L
    · by_cases c2 : 0 < cn d x y
      · exact absurd (b0.trans c) (hq 0 (by omega))
      · rw [if_pos c, if_neg c2]
    · rw [if_neg c]
      by_cases c9 : own d x y = -9
      · rw [if_pos c9]
      · rw [if_neg c9]
        by_cases c2 : 1 < cn d x y
        · refine absurd ?_ (hq 1 (by omega))
          rw [show ((1 : Nat) : Int) = 1 from rfl, b1, if_neg c9]
          omega
        · rw [if_neg c2]
end Si
