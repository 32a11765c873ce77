/-! a letter is read: the loops of the class -/
def RdIn (w : Nat → Nat → Int) : Prop := -99 ≤ w 0 6 ∧ w 0 6 ≤ 99 ∧ -99 ≤ w 0 7 ∧ w 0 7 ≤ 99 ∧ -99 ≤ w 0 8 ∧ w 0 8 ≤ 99
def RdNew (w : Nat → Nat → Int) : Prop := w 0 0 = 0 ∧ w 0 1 = 0 ∧ w 0 5 = 0 ∧ RdIn w ∧ ∀ j, j < 81 → w 1 j = -9
section Rc
variable {T : zT} {hz h : zH} {R b : Nat} {w d : Nat → Nat → Int}
theorem nLP (hO : OkD d) (f : Int) : nL d f ≤ 9 ∧ nP d f ≤ 9 := by
  obtain ⟨w1, w2, w3, w4⟩ := hO.wh
  unfold nL nP
  constructor <;> split <;> omega
theorem RdOk_cell (hO : OkD d) {L f l p n : Int} (hW : RdOk w n) (hn : n ≤ 80) (l1 : 0 ≤ l) (l2 : l < nL d f) (p1 : 0 ≤ p) (p2 : p < nP d f) : RdOk (wcell d L f w l p) (n + 1) := by
  have g := cXY_in (d := d) l1 l2 p1 p2
  obtain ⟨a, c⟩ := nLP hO f
  unfold wcell
  by_cases c1 : sAt d L (cX f l p) (cY f l p) = -9
  · rw [if_pos c1]
    exact hW.mono (by omega)
  · rw [if_neg c1]
    rcases sAt_in hO (L := L) g with z | ⟨z1, z2⟩
    · exact absurd z c1
    · exact RdOk_st hW hn l1 (by omega) p1 (by omega) z1 z2
theorem RdOk_line (hO : OkD d) {L f : Int} {l : Nat} (hW : RdOk w (9 * l)) (l2 : l < nL d f) : ∀ p : Nat, p ≤ nP d f → RdOk (wline d L f l w p) (9 * l + p)
  | 0, _ => by
    show RdOk w _
    exact hW.mono (by omega)
  | p + 1, hp => by
    obtain ⟨a, c⟩ := nLP hO f
    have := RdOk_cell hO (L := L) (f := f) (RdOk_line hO (L := L) hW l2 p (by omega)) (by omega) (l := l) (p := p) (by omega) (by omega) (by omega) (by omega)
    exact this.mono (by omega)
theorem RdOk_all (hO : OkD d) {L f : Int} (hW : RdOk w 0) : ∀ l : Nat, l ≤ nL d f → RdOk (wall d L f w l) (9 * l)
  | 0, _ => by
    show RdOk w _
    exact hW.mono (by omega)
  | l + 1, hl => by
    obtain ⟨a, c⟩ := nLP hO f
    have := RdOk_line (f := f) hO (L := L) (RdOk_all (f := f) hO (L := L) hW l (by omega)) (by omega) (nP d f) (by omega)
    exact this.mono (by omega)
theorem line_eq (hS : RdAt T h R w) (hC : ShAt T h b d) (hO : OkD d) (hd : R + 6 < b ∨ b + 16 < R) {L f fl : Int} (hL : L = 0 ∨ L = 1) (hfl : (f = 0 ∧ fl = 1) ∨ (f ≠ 0 ∧ fl = 0)) {l : Nat} (hW : RdOk w (9 * l)) (l2 : l < nL d f) {ρ : Type} (K : zH → Option ρ) (z : Int32) : ∃ h', LX2_readLetter_91 T R b (iZ L) (iZ (d 0 3)) (iZ fl) z (iZ (nP d f)) (iZ l) K FUEL (iZ 0) h = K h' ∧ RdAt T h' R (wline d L f l w (nP d f)) ∧ offR R h h' := by
  obtain ⟨a, c⟩ := nLP hO f
  refine Exists.elim (loop_inv0 (L := LX2_readLetter_91 T R b (iZ L) (iZ (d 0 3)) (iZ fl) z (iZ (nP d f)) (iZ l) K) (K := K) (I := fun p g => RdAt T g R (wline d L f l w p) ∧ offR R h g) (n := nP d f) (by omega) (fun k p g hp hI => ?_) (fun k g hI => ?_) (h := h) ⟨hS, offR.refl R h⟩) ?_
  · obtain ⟨s1, f1⟩ := hI
    have hk := RdOk_line hO (L := L) hW l2 p (by omega)
    obtain ⟨g2, e2, s2, f2⟩ := cell_eq s1 (hk.mono (by omega)) (f1.sh hC hd) hO hd hL hfl (l := l) (p := p) (by omega) (by omega) (by omega) (by omega) K k z
    exact ⟨g2, e2, s2, f1.trans f2⟩
  · rw [LX2_readLetter_91.eq_2, if_pos (by exact Int32.le_refl _)]
  · rintro g ⟨e, s1, f1⟩
    exact ⟨g, e, s1, f1⟩
theorem lines_eq (hS : RdAt T h R w) (hC : ShAt T h b d) (hO : OkD d) (hd : R + 6 < b ∨ b + 16 < R) {L f fl : Int} (hL : L = 0 ∨ L = 1) (hfl : (f = 0 ∧ fl = 1) ∨ (f ≠ 0 ∧ fl = 0)) (hW : RdOk w 0) {ρ : Type} (K : zH → Option ρ) : ∃ h', LX2_readLetter_81 T R b (iZ L) (iZ (d 0 3)) (iZ fl) (iZ (nL d f)) (iZ (nP d f)) K FUEL (iZ 0) h = K h' ∧ RdAt T h' R (wall d L f w (nL d f)) ∧ offR R h h' := by
  obtain ⟨a, c⟩ := nLP hO f
  refine Exists.elim (loop_inv0 (L := LX2_readLetter_81 T R b (iZ L) (iZ (d 0 3)) (iZ fl) (iZ (nL d f)) (iZ (nP d f)) K) (K := K) (I := fun l g => RdAt T g R (wall d L f w l) ∧ offR R h g) (n := nL d f) (by omega) (fun k l g hl hI => ?_) (fun k g hI => ?_) (h := h) ⟨hS, offR.refl R h⟩) ?_
  · obtain ⟨s1, f1⟩ := hI
    have hk := RdOk_all (f := f) hO (L := L) hW l (by omega)
    obtain ⟨g2, e2, s2, f2⟩ := line_eq s1 (f1.sh hC hd) hO hd hL hfl hk hl (fun (h59 : zH) => LX2_readLetter_81 T R b (iZ L) (iZ (d 0 3)) (iZ fl) (iZ (nL d f)) (iZ (nP d f)) K k (iZ (l + 1)) h59) (iZ (nL d f))
    refine ⟨g2, ?_, s2, f1.trans f2⟩
    rw [LX2_readLetter_81.eq_2, if_neg (by rw [iZ_le (by omega) (by omega) (by omega) (by omega)]; omega), q0, q1, iZ_add]
    exact e2
  · rw [LX2_readLetter_81.eq_2, if_pos (by exact Int32.le_refl _)]
  · rintro g ⟨e, s1, f1⟩
    exact ⟨g, e, s1, f1⟩
theorem RdNew.ok (h : RdNew w) : RdOk w 0 := by
  obtain ⟨a, b, c, e, -⟩ := h
  unfold RdIn at e
  unfold RdOk
  omega
theorem readLetter_eq (hS : RdAt T h R w) (hI : RdIn w) (hC : ShAt T h b d) (hO : OkD d) (hd : R + 6 < b ∨ b + 16 < R) {L : Nat} (hL : L < 2) : ∃ h' w0, FX2_readLetter T R b (iZ L) (iZ (d 0 3)) h = some (iZ (wall d L (d 3 L) w0 (nL d (d 3 L)) 0 0), h') ∧ RdAt T h' R (wall d L (d 3 L) w0 (nL d (d 3 L))) ∧ offR R h h' ∧ RdNew w0 := by
  obtain ⟨w1, w2, w3, w4⟩ := hO.wh
  have hl := hO.lw hL
  unfold lwOk at hl
  obtain ⟨g1, e1, s1, f1⟩ := rd_set hS (k := 0) (by omega) 0
  obtain ⟨g2, e2, s2, f2⟩ := rd_set s1 (k := 1) (by omega) 0
  obtain ⟨g3, e3, s3, f3⟩ := rd_set s2 (k := 5) (by omega) 0
  obtain ⟨g4, t, e4, n4, v4, k4⟩ := fill_ok (s3.2 1 (by omega) (by omega)) (by omega) (-9)
  have f4 : offR R g3 g4 := fun q hq => k4 q (by omega)
  have s4 := s3.row (r := 1) (by omega) (by omega) n4 (fun q hq => k4 q (by omega))
  have f14 := ((f1.trans f2).trans f3).trans f4
  have c4 := f14.sh hC hd
  have hN : RdNew (rowup (dput (dput (dput w 0 0 0) 0 1 0) 0 5 0) 1 t) := ⟨rfl, rfl, rfl, hI, fun j hj => by rw [rowup_self]; exact v4 j hj⟩
  have aw : FX1_at T (b + 5) (iZ L) g4 = some (iZ (d 3 L)) := at_in (sh_n3 c4) (by omega) (by omega) (by omega)
  have run : ∀ fl : Int, (d 3 L = 0 ∧ fl = 1) ∨ (d 3 L ≠ 0 ∧ fl = 0) → ∃ h', LX2_readLetter_81 T R b (iZ L) (iZ (d 0 3)) (iZ fl) (iZ (nL d (d 3 L))) (iZ (nP d (d 3 L))) (fun (h60 : zH) => (zgi h60 R 2 0).bind fun x61 => some (x61, h60)) FUEL (iZ 0) g4 = some (iZ (wall d L (d 3 L) (rowup (dput (dput (dput w 0 0 0) 0 1 0) 0 5 0) 1 t) (nL d (d 3 L)) 0 0), h') ∧ RdAt T h' R (wall d L (d 3 L) (rowup (dput (dput (dput w 0 0 0) 0 1 0) 0 5 0) 1 t) (nL d (d 3 L))) ∧ offR R g4 h' := by
    intro fl hfl
    obtain ⟨g5, e5, s5, f5⟩ := lines_eq s4 c4 hO hd (L := (L : Int)) (by omega) hfl hN.ok (fun (h60 : zH) => (zgi h60 R 2 0).bind fun x61 => some (x61, h60))
    exact ⟨g5, by rw [e5, rd_g0 s5, zsn], s5, f5⟩
  by_cases c : d 3 L = 0
  · obtain ⟨g5, e5, s5, f5⟩ := run 1 (Or.inl ⟨c, rfl⟩)
    refine ⟨g5, _, ?_, s5, f14.trans f5, hN⟩
    have en : nL d (d 3 L) = (d 0 1).toNat := by unfold nL; rw [if_pos c]
    have ep : nP d (d 3 L) = (d 0 0).toNat := by unfold nP; rw [if_pos c]
    rw [← e5, en, ep, w1, w2]
    unfold FX2_readLetter
    rw [rd_zo hS, zsn]
    simp only [zJn]
    rw [q0, e1, zsn, e2, zsn, e3, zsn, rd_r1 s3, zsn, qm9, e4, zsn, sh_r3 c4, zsn, aw, zsn, if_pos (by rw [c]), q1, if_neg (by decide), sh_g1 c4, zsn, if_neg (by decide), sh_g0 c4, zsn]
  · obtain ⟨g5, e5, s5, f5⟩ := run 0 (Or.inr ⟨c, rfl⟩)
    refine ⟨g5, _, ?_, s5, f14.trans f5, hN⟩
    have en : nL d (d 3 L) = (d 0 0).toNat := by unfold nL; rw [if_neg c]
    have ep : nP d (d 3 L) = (d 0 1).toNat := by unfold nP; rw [if_neg c]
    rw [← e5, en, ep, w1, w2]
    unfold FX2_readLetter
    rw [rd_zo hS, zsn]
    simp only [zJn]
    rw [q0, e1, zsn, e2, zsn, e3, zsn, rd_r1 s3, zsn, qm9, e4, zsn, sh_r3 c4, zsn, aw, zsn, if_neg (by rw [iZ_eq (by omega) (by omega) (by omega) (by omega)]; exact c), if_pos trivial, sh_g0 c4, zsn, if_pos trivial, sh_g1 c4, zsn]
end Rc
