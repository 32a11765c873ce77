/-! calls: wordAt, count -/
section C4
variable {T : zT} {hz h : zH} {b o : Nat} {n : Int} {tx : Nat → Int} {d : Nat → Nat → Int} {cnt nxt : Int} {dd : Nat → Nat → Nat → Int} {fl : Nat → Int} {ds : Nat → Nat → Nat → Int} {fs v tx7 r D kp kb : Nat → Int} {x : Int64}
def csg (w : Nat → Nat → Int) (s : Int) : Int := zsum (w 0 5).toNat (fun j => if w 2 j = s then 1 else 0)
theorem csg_in {w : Nat → Nat → Int} (hW : RdOk w 81) (s : Int) : 0 ≤ csg w s ∧ csg w s ≤ 81 := by
  have h5 := hW.2.2.2.2.1
  have h6 := hW.2.2.2.2.2.1
  have g := zsum_le (f := fun j => if w 2 j = s then 1 else 0) (m := 1) (w 0 5).toNat (fun j hj => by split <;> omega)
  unfold csg
  omega
theorem count6 {w : Nat → Nat → Int} {Rr : Nat} (hS : RdAt T h Rr w) (hW : RdOk w 81) (hG : SgIn w) {s : Int} (s1 : -2147483648 ≤ s) (s2 : s < 2147483648) : FX2_countSign T Rr (iZ s) h = some (iZ (csg w s)) := by
  have h5 := hW.2.2.2.2.1
  have h6 := hW.2.2.2.2.2.1
  unfold FX2_countSign csg
  rw [rd_zo hS, zsn, q0]
  refine (loop_sum0 (L := LX2_countSign_4 T h Rr (iZ s) (fun (x13 : Int32) => some x13)) (K := fun v => some v) (g := fun j => if w 2 j = s then 1 else 0) (n := (w 0 5).toNat) (by omega) (fun k t i hi => ?_) (fun k t => ?_) 0).trans (by rw [Int.zero_add])
  · have ha : FX1_at T (Rr + 3) (iZ (i : Int)) h = some (iZ (w 2 i)) := at_in (hS.2 2 (by omega) (by omega)) (by omega) (by omega) (by omega)
    have hg := hG.1 i (by omega)
    rw [LX2_countSign_4.eq_2, rd_g5 hS, zsn, if_neg (by rw [iZ_le (by omega) (by omega) (by omega) (by omega)]; omega)]
    simp only [zJn]
    rw [rd_r2 hS, zsn, ha, zsn, q0, q1, iZ_add, iZ_add, iZ_add]
    by_cases c : w 2 i = s
    · rw [if_pos (by rw [c]), if_pos c]
    · rw [if_neg (by rw [iZ_eq (by omega) (by omega) (by omega) (by omega)]; exact c), if_neg c]
  · rw [LX2_countSign_4.eq_2, rd_g5 hS, zsn, if_pos (by rw [iZ_le (by omega) (by omega) (by omega) (by omega)]; omega)]
end C4
