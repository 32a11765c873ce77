/-! how many marks a reading has; a page less in the diary -/
section Mk
variable {w d : Nat → Nat → Int}
def hasS (d : Nat → Nat → Int) (L x y : Int) : Int := if sAt d L x y = -9 then 0 else 1
theorem wcell_1 {L f l p : Int} (hW : RdOk w 80) : wcell d L f w l p 0 1 = w 0 1 + hasS d L (cX f l p) (cY f l p) := by
  unfold wcell hasS
  by_cases c : sAt d L (cX f l p) (cY f l p) = -9
  · rw [if_pos c, if_pos c, Int.add_zero]
  · rw [if_neg c, if_neg c, wst_v.2.1, (wgo1_c hW).2.2.2.2]
theorem wline_1 (hO : OkD d) {L f : Int} {l : Nat} (hW : RdOk w (9 * l)) (l2 : l < nL d f) : ∀ p : Nat, p ≤ nP d f → wline d L f l w p 0 1 = w 0 1 + zsum p (fun q => hasS d L (cX f l q) (cY f l q))
  | 0, _ => by show w 0 1 = w 0 1 + 0; omega
  | p + 1, hp => by
    obtain ⟨a, c⟩ := nLP hO f
    have hk := RdOk_line (f := f) hO (L := L) hW l2 p (by omega)
    have ih := wline_1 hO (L := L) hW l2 p (by omega)
    show wcell d L f (wline d L f l w p) l p 0 1 = w 0 1 + (zsum p (fun q => hasS d L (cX f l q) (cY f l q)) + hasS d L (cX f l p) (cY f l p))
    rw [wcell_1 (hk.mono (by omega)), ih]
    omega
theorem wall_1 (hO : OkD d) {L f : Int} (hW : RdOk w 0) : ∀ l : Nat, l ≤ nL d f → wall d L f w l 0 1 = w 0 1 + zsum l (fun k => zsum (nP d f) (fun q => hasS d L (cX f k q) (cY f k q)))
  | 0, _ => by show w 0 1 = w 0 1 + 0; omega
  | l + 1, hl => by
    have hk := RdOk_all (f := f) hO (L := L) hW l (by omega)
    have ih := wall_1 (f := f) hO (L := L) hW l (by omega)
    show wline d L f l (wall d L f w l) (nP d f) 0 1 = w 0 1 + (zsum l (fun k => zsum (nP d f) (fun q => hasS d L (cX f k q) (cY f k q))) + zsum (nP d f) (fun q => hasS d L (cX f l q) (cY f l q)))
    rw [wline_1 hO hk hl _ (Nat.le_refl _), ih]
    omega
theorem has_cinc (hO : OkD d) {L x y : Int} (hL : L = 0 ∨ L = 1) (g : inG d x y) : zsum (cn d x y).toNat (fun i => cinc d (8 + L) x y i) = hasS d L x y := by
  have hcn := hO.cn g
  have ho := own_in hO g
  have e : ∀ i : Nat, cinc d (8 + L) x y i = if ownof d x y i = L then 1 else 0 := fun i => by
    unfold cinc
    rw [if_neg (by omega), if_neg (by omega), show 8 + L - 8 = L by omega]
  have b0 : ownof d x y ((0 : Nat) : Int) = own d x y := if_pos (Or.inl rfl)
  have b1 : ownof d x y ((1 : Nat) : Int) = if own d x y = -9 then -9 else 1 - own d x y := by
    unfold ownof
    by_cases c : own d x y = -9
    · rw [if_pos (Or.inr c), if_pos c, c]
    · rw [if_neg (by omega), if_neg c]
  rw [zsum_congr _ (fun i _ => e i)]
  have z9 : sAt d L x y = -9 → hasS d L x y = 0 := fun z => if_pos z
  have zn : sAt d L x y ≠ -9 → hasS d L x y = 1 := fun z => if_neg z
  rcases (show cn d x y = 0 ∨ cn d x y = 1 ∨ cn d x y = 2 by omega) with c | c | c
  · rw [z9 (by unfold sAt; (repeat' split) <;> omega), c]
    rfl
  · have m5 := (hO.mk g (i := 0) (by omega) (by omega)).1
    rw [c]
    show 0 + (if ownof d x y ((0 : Nat) : Int) = L then (1 : Int) else 0) = _
    rw [b0]
    by_cases c1 : own d x y = L
    · rw [if_pos c1, zn (by unfold sAt; (repeat' split) <;> omega)]; rfl
    · rw [if_neg c1, z9 (by unfold sAt; (repeat' split) <;> omega)]; rfl
  · have m5 := (hO.mk g (i := 0) (by omega) (by omega)).1
    have n5 := (hO.mk g (i := 1) (by omega) (by omega)).1
    rw [c]
    show 0 + (if ownof d x y ((0 : Nat) : Int) = L then (1 : Int) else 0) + (if ownof d x y ((1 : Nat) : Int) = L then (1 : Int) else 0) = _
    rw [b0, b1]
    by_cases c1 : own d x y = L
    · rw [if_pos c1, zn (by unfold sAt; (repeat' split) <;> omega), if_neg (show ¬ own d x y = -9 by omega), if_neg (show ¬ 1 - own d x y = L by omega)]; rfl
    · rw [if_neg c1]
      by_cases c2 : own d x y = -9
      · rw [if_pos c2, z9 (by unfold sAt; (repeat' split) <;> omega), if_neg (show ¬ (-9 : Int) = L by omega)]; rfl
      · rw [if_neg c2, zn (by unfold sAt; (repeat' split) <;> omega), if_pos (show 1 - own d x y = L by omega)]; rfl
/-- the marks that a reading counts are those of the letter -/
theorem wall_marks (hO : OkD d) {L : Nat} (hL : L < 2) (hN : RdNew w) : wall d L (d 3 L) w (nL d (d 3 L)) 0 1 = gsum d (fun x y => (if (8 + (L : Int)) = 7 ∧ cn d x y = 2 then 1 else 0) + zsum (cn d x y).toNat (fun i => cinc d (8 + (L : Int)) x y i)) := by
  have e2 : gsum d (fun x y => (if (8 + (L : Int)) = 7 ∧ cn d x y = 2 then 1 else 0) + zsum (cn d x y).toNat (fun i => cinc d (8 + (L : Int)) x y i)) = gsum d (hasS d L) := gsum_congr hO (fun x y g => by
    rw [if_neg (by omega), Int.zero_add, has_cinc hO (by omega) g])
  rw [e2, wall_1 hO hN.ok _ (Nat.le_refl _), hN.2.1, Int.zero_add]
  unfold gsum
  by_cases c : d 3 L = 0
  · have en : nL d (d 3 L) = (d 0 1).toNat := by unfold nL; rw [if_pos c]
    have ep : nP d (d 3 L) = (d 0 0).toNat := by unfold nP; rw [if_pos c]
    rw [en, ep, zsum_swap]
    refine zsum_congr _ (fun x _ => zsum_congr _ (fun y _ => ?_))
    unfold cX cY
    rw [if_pos c, if_pos c]
  · have en : nL d (d 3 L) = (d 0 0).toNat := by unfold nL; rw [if_neg c]
    have ep : nP d (d 3 L) = (d 0 1).toNat := by unfold nP; rw [if_neg c]
    rw [en, ep]
    refine zsum_congr _ (fun x _ => zsum_congr _ (fun y _ => ?_))
    unfold cX cY
    rw [if_neg c, if_neg c]
end Mk