/-! the reference's countOf: marks decided (4), full cells (7), marks of a letter (8, 9) -/
def cinc (d : Nat → Nat → Int) (z x y i : Int) : Int := if z = 4 then (if d 8 (pl x y i) = -9 then 0 else 1) else if z ≤ 7 then 0 else if ownof d x y i = z - 8 then 1 else 0
section Ab
variable {T : zT} {h : zH} {m : Nat} {r v : Nat → Int} {d : Nat → Nat → Int}
theorem countIn_eq (hM : MoAt h m v) (hA : Arr T h (m + 3) 739 r) (hP : Pg d r) (hO : OkD d) {z : Int} (hz : 0 ≤ z ∧ z ≤ 9) {j : Nat} (hj : j < 81) {ρ : Type} (K : Int32 → Option ρ) (u : Int32) (s : Int) : LX7_countOf_47 T h m (iZ z) u (iZ (10 + 9 * (j : Int))) K FUEL (iZ s) (iZ 0) = K (iZ (s + onP d (fun x y => zsum (cn d x y).toNat (fun i => cinc d z x y i)) j)) := by
  have pc := page_c hA hP.1 hj
  refine cell_loop (L := LX7_countOf_47 T h m (iZ z) u (iZ (10 + 9 * (j : Int))) K) (K := K) hP.1 hO (f := fun x y i => cinc d z x y i) hj (fun k2 s2 i x y g i2 ec en => ?_) (fun k2 s2 => ?_) s
  · rw [LX7_countOf_47.eq_2]
    have hcn := hO.cn g
    have hb := belongs_eq hA hP hO g (i := i) (by omega) i2
    have ho := ownof_in hO (i := (i : Int)) g
    obtain ⟨-, -, -, m8⟩ := zai_m hA hP.1 hO g (i := i) (by omega) i2
    have hk := (hO.mk g (i := i) (by omega) i2).2.2.2.2.2.2
    rw [ec] at hb m8
    rw [en] at pc
    simp only [zJn]
    rw [mo_r5 hM, zsn, pc, zsn, if_neg (by rw [iZ_le (by omega) (by omega) (by omega) (by omega)]; omega)]
    unfold cinc
    by_cases c4 : z = 4
    · rw [if_pos (by rw [c4]; rfl), zsn, markAt_eq, zsn, q3, iZ_add, m8, zsn, if_pos c4]
      have c7 : iZ z ≤ 7 := by rw [q7, iZ_le (by omega) (by omega) (by omega) (by omega)]; omega
      by_cases c : d 8 (pl x y i) = -9
      · rw [if_pos (by rw [c]; rfl), if_pos c7, if_pos trivial, if_pos trivial, if_pos c, q0, q1, iZ_add, iZ_add]
      · rw [if_neg (by rw [qm9, iZ_eq (by omega) (by omega) (by omega) (by omega)]; exact c), if_pos c7, if_neg (by decide), if_neg c, q1, iZ_add, iZ_add]
    · rw [if_neg (by rw [q4, iZ_eq (by omega) (by omega) (by omega) (by omega)]; exact c4), if_neg c4]
      by_cases c7 : z ≤ 7
      · rw [if_pos (by rw [q7, iZ_le (by omega) (by omega) (by omega) (by omega)]; exact c7), if_pos trivial, if_pos trivial, if_pos c7, q0, q1, iZ_add, iZ_add]
      · rw [if_neg (by rw [q7, iZ_le (by omega) (by omega) (by omega) (by omega)]; exact c7), if_neg c7, zsn, hb, zsn, q8, iZ_sub]
        by_cases c : ownof d x y i = z - 8
        · rw [if_pos (by rw [c]), if_pos trivial, if_neg (by decide), if_pos c, q1, iZ_add, iZ_add]
        · rw [if_neg (by rw [iZ_eq (by omega) (by omega) (by omega) (by omega)]; exact c), if_pos trivial, if_pos trivial, if_neg c, q0, q1, iZ_add, iZ_add]
  · rw [LX7_countOf_47.eq_2, mo_r5 hM, zsn, pc, zsn, if_pos (by exact Int32.le_refl _)]
theorem countOf_eq (hM : MoAt h m v) (hA : Arr T h (m + 3) 739 r) (hP : Pg d r) (hO : OkD d) {z : Int} (hz : 0 ≤ z ∧ z ≤ 9) : FX7_countOf T m (iZ z) h = some (iZ (gsum d (fun x y => (if z = 7 ∧ cn d x y = 2 then 1 else 0) + zsum (cn d x y).toNat (fun i => cinc d z x y i)))) := by
  unfold FX7_countOf
  rw [mo_zo hM, zsn, q0]
  refine (loop_sum0 (L := LX7_countOf_4 T h m (iZ z) (fun (x45 : Int32) => some x45)) (K := fun v => some v) (g := onP d (fun x y => (if z = 7 ∧ cn d x y = 2 then 1 else 0) + zsum (cn d x y).toNat (fun i => cinc d z x y i))) (n := 81) (by omega) (fun k s j hj => ?_) (fun k s => ?_) 0).trans (by rw [Int.zero_add, page_sum hO])
  · have pc := page_c hA hP.1 hj
    have eo : onP d (fun x y => (if z = 7 ∧ cn d x y = 2 then 1 else 0) + zsum (cn d x y).toNat (fun i => cinc d z x y i)) j = (if z = 7 ∧ onP d (cn d) j = 2 then 1 else 0) + onP d (fun x y => zsum (cn d x y).toNat (fun i => cinc d z x y i)) j := by
      rcases inG_em d (j % 9 : Nat) (j / 9 : Nat) with g | g
      · rw [onP_in g, onP_in g, onP_in g]
      · rw [onP_out g, onP_out g, onP_out g, if_neg (by omega)]
        rfl
    have hb : 0 ≤ onP d (cn d) j ∧ onP d (cn d) j ≤ 2 := by
      rcases inG_em d (j % 9 : Nat) (j / 9 : Nat) with g | g
      · rw [onP_in g]; exact hO.cn g
      · rw [onP_out g]; omega
    rw [eo, LX7_countOf_4.eq_2, if_neg (by rw [q81, iZ_le (by omega) (by omega) (by omega) (by omega)]; omega)]
    simp only [zJn]
    rw [q9, q10, iZ_mul, iZ_add, mo_r5 hM, zsn, pc, zsn, q0, q1, q7, q2]
    by_cases c : z = 7
    · rw [if_pos (by rw [c])]
      by_cases c2 : onP d (cn d) j = 2
      · rw [if_pos (by rw [c2]), if_pos ⟨c, c2⟩, iZ_add, iZ_add, countIn_eq hM hA hP hO hz hj, Int.add_assoc]
      · rw [if_neg (by rw [iZ_eq (by omega) (by omega) (by omega) (by omega)]; exact c2), if_neg (fun w => c2 w.2), iZ_add, iZ_add, countIn_eq hM hA hP hO hz hj, Int.add_assoc]
    · rw [if_neg (by rw [iZ_eq (by omega) (by omega) (by omega) (by omega)]; exact c), if_neg (fun w => c w.1), iZ_add, iZ_add, countIn_eq hM hA hP hO hz hj, Int.add_assoc]
  · rw [LX7_countOf_4.eq_2, if_pos (by rw [q81]; exact Int32.le_refl _)]
theorem count4 (hO : OkD d) : gsum d (fun x y => (if (4 : Int) = 7 ∧ cn d x y = 2 then 1 else 0) + zsum (cn d x y).toNat (fun i => cinc d 4 x y i)) = gsum d (dcd d) := by
  refine gsum_congr hO (fun x y g => ?_)
  have hcn := hO.cn g
  unfold dcd
  rw [if_neg (by omega), Int.zero_add, zsum_cut (m := (cn d x y).toNat) 2 (by omega) (fun i h1 h2 => if_pos (dec_ge (by omega)))]
  refine zsum_congr _ (fun i hi => ?_)
  unfold cinc
  rw [if_pos rfl, dec_lt (by omega)]
theorem count7 (hO : OkD d) : gsum d (fun x y => (if (7 : Int) = 7 ∧ cn d x y = 2 then 1 else 0) + zsum (cn d x y).toNat (fun i => cinc d 7 x y i)) = gsum d (fll d) := by
  refine gsum_congr hO (fun x y g => ?_)
  have hcn := hO.cn g
  have e : zsum (cn d x y).toNat (fun i => cinc d 7 x y i) = 0 := zsum_zero _ (fun i hi => by
    unfold cinc
    rw [if_neg (by omega), if_pos (by omega)])
  rw [e]
  unfold fll
  by_cases c : cn d x y = 2
  · rw [if_pos ⟨rfl, c⟩, if_neg (by omega)]; rfl
  · rw [if_neg (fun w => c w.2), if_pos (by omega)]; rfl
end Ab
