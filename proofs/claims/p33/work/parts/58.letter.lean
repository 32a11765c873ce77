/-! calls: about, letter -/
def lmax (w : Nat → Nat → Int) : Int := accu (fun i s => if s < wlen w i then wlen w i else s) (w 0 0).toNat 0
theorem wlen_le {w : Nat → Nat → Int} (h : SO w) (hW : RdOk w 81) {i : Int} (i1 : 0 ≤ i) (i2 : i < w 0 0) : 1 ≤ wlen w i ∧ wlen w i ≤ 81 := by
  have g := wlen_in h hW i1 i2
  obtain ⟨a1, a2, a3, a4, a5, a6, -⟩ := hW
  omega
theorem gsum_in {d : Nat → Nat → Int} (hO : OkD d) {f : Int → Int → Int} {m : Int} (h0 : 0 ≤ m) (hm : m ≤ 1000) (hf : ∀ x y, inG d x y → 0 ≤ f x y ∧ f x y ≤ m) : 0 ≤ gsum d f ∧ gsum d f ≤ 81000 := by
  obtain ⟨w1, w2, w3, w4⟩ := hO.wh
  unfold gsum
  have g1 : ∀ i : Nat, i < (d 0 0).toNat → 0 ≤ zsum (d 0 1).toNat (fun y => f i y) ∧ zsum (d 0 1).toNat (fun y => f i y) ≤ 9000 := fun i hi => by
    have g := zsum_le (f := fun y => f i y) (m := 1000) (d 0 1).toNat (fun j hj => by
      have := hf i j ⟨by omega, by omega, by omega, by omega⟩
      omega)
    omega
  have g := zsum_le (f := fun x => zsum (d 0 1).toNat (fun y => f x y)) (m := 9000) (d 0 0).toNat g1
  omega
section C2
variable {T : zT} {hz h : zH} {b o : Nat} {n : Int} {tx : Nat → Int} {d : Nat → Nat → Int} {cnt nxt : Int} {dd : Nat → Nat → Nat → Int} {fl : Nat → Int} {ds : Nat → Nat → Nat → Int} {fs v tx7 r D kp kb : Nat → Int} {x : Int64}
theorem long6 {w : Nat → Nat → Int} {Rr : Nat} (hS : RdAt T h Rr w) (hW : RdOk w 81) (hO : SO w) : FX2_longest T Rr h = some (iZ (lmax w)) ∧ 0 ≤ lmax w ∧ lmax w ≤ 81 := by
  have hb := hW.1
  have hb2 := hW.2.1
  have en : (((w 0 0).toNat : Nat) : Int) = w 0 0 := by omega
  have g := loop_acc (L := LX2_longest_4 T h Rr (fun x8 => some x8)) (K := fun v => some v) (g := fun i s => if s < wlen w i then wlen w i else s) (P := fun _ s => 0 ≤ s ∧ s ≤ 81) (n := (w 0 0).toNat) (by omega) (fun k s i hi hp => ?_) (fun k s hp => ?_) (s := 0) (by omega)
  · refine ⟨?_, g.2⟩
    unfold FX2_longest
    rw [rd_zo hS, zsn, q0, g.1]
    rfl
  · have hl := wlen_le hO hW (i := i) (by omega) (by omega)
    refine ⟨?_, ?_⟩
    · rw [LX2_longest_4.eq_2, rd_g0 hS, zsn, if_neg (by rw [iZ_le (by omega) (by omega) (by omega) (by omega)]; omega), lengthOf_eq hS hW (by omega) (by omega), zsn, q1, iZ_add]
      by_cases c : s < wlen w i
      · rw [if_pos (by rw [iZ_lt (by omega) (by omega) (by omega) (by omega)]; exact c), if_pos c]
      · rw [if_neg (by rw [iZ_lt (by omega) (by omega) (by omega) (by omega)]; exact c), if_neg c]
    · by_cases c : s < wlen w i
      · rw [if_pos c]; omega
      · rw [if_neg c]; omega
  · rw [LX2_longest_4.eq_2, rd_g0 hS, zsn, if_pos (by rw [iZ_le (by omega) (by omega) (by omega) (by omega)]; omega)]
theorem l4_ : (4 : Int64) = lZ 4 := rfl
theorem q8' : (8 : Int32) = iZ 8 := rfl
end C2
