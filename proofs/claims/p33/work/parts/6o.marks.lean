/-! marks by letters and doubts: what the law asks of each -/
section Gq
variable {α : Type} {T : zT} {hz h : zH} {b C c n C1 : Nat} {σ : Sg} {Q : α → zH → Prop} {A B : Option (α × zH × Nat)}
theorem gd_eq {p q : Int} (p1 : -2147483648 ≤ p) (p2 : p < 2147483648) (q1 : -2147483648 ≤ q) (q2 : q < 2147483648) (ht : p = q → Gd A C Q) (hf : p ≠ q → Gd B C Q) : Gd (if iZ p = iZ q then A else B) C Q := by
  by_cases e : p = q
  · exact gd_t ((iZ_eq p1 p2 q1 q2).2 e) (ht e)
  · exact gd_f (fun w => e ((iZ_eq p1 p2 q1 q2).1 w)) (hf e)
theorem gd_le {p q : Int} (p1 : -2147483648 ≤ p) (p2 : p < 2147483648) (q1 : -2147483648 ≤ q) (q2 : q < 2147483648) (ht : p ≤ q → Gd A C Q) (hf : q < p → Gd B C Q) : Gd (if iZ p ≤ iZ q then A else B) C Q := by
  by_cases e : p ≤ q
  · exact gd_t ((iZ_le p1 p2 q1 q2).2 e) (ht e)
  · exact gd_f (fun w => e ((iZ_le p1 p2 q1 q2).1 w)) (hf (by omega))
theorem gd_lt {p q : Int} (p1 : -2147483648 ≤ p) (p2 : p < 2147483648) (q1 : -2147483648 ≤ q) (q2 : q < 2147483648) (ht : p < q → Gd A C Q) (hf : q ≤ p → Gd B C Q) : Gd (if iZ p < iZ q then A else B) C Q := by
  by_cases e : p < q
  · exact gd_t ((iZ_lt p1 p2 q1 q2).2 e) (ht e)
  · exact gd_f (fun w => e ((iZ_lt p1 p2 q1 q2).1 w)) (hf (by omega))
/-- a loop whose state is known at each round -/
theorem gd_for {S : Type} {L : Nat → Int32 → S → zH → Option (α × zH × Nat)} {F : Nat → S} {s0 : S} (hn : n < 9999) (O : Ob T hz h b σ) (h0 : s0 = F 0) (hC : C1 + n * c ≤ C) (he : ∀ (k : Nat) (h : zH), Ob T hz h b σ → Gd (L (k + 1) (iZ n) (F n) h) C1 Q) (hs : ∀ (k i : Nat) (h : zH) (D : Nat), i < n → Ob T hz h b σ → (∀ h', Ob T hz h' b σ → Gd (L k (iZ ((i : Int) + 1)) (F (i + 1)) h') D Q) → Gd (L (k + 1) (iZ i) (F i) h) (D + c) Q) : Gd (L FUEL (iZ 0) s0 h) C Q := by
  refine Gd.mono ?_ hC
  rw [h0]
  exact gd_loop (L := fun k i (s : S × zH) => L k i s.1 s.2) (I := fun i (s : S × zH) => s.1 = F i ∧ Ob T hz s.2 b σ) (c := c) (C1 := C1) hn (fun k i s D hi hI kk => by
    show Gd (L (k + 1) (iZ i) s.1 s.2) (D + c) Q
    rw [hI.1]
    exact hs k i s.2 D hi hI.2 (fun h' O' => kk (F (i + 1), h') ⟨rfl, O'⟩)) (fun k s hI => by
    show Gd (L (k + 1) (iZ n) s.1 s.2) C1 Q
    rw [hI.1]
    exact he k s.2 hI.2) (F 0, h) ⟨rfl, O⟩
end Gq
def oc (d : Nat → Nat → Int) (x y : Int) : Int := if own d x y = -9 then 0 else cn d x y
def mt (d : Nat → Nat → Int) (x y : Int) (i : Nat) : Int := if own d x y = -9 then 0 else if i = 0 then 0 else if i = 1 then 1 + own d x y else 3
section Mf
variable {d : Nat → Nat → Int} {x y i : Int}
theorem own_cn (hO : OkD d) (g : inG d x y) (ho : own d x y ≠ -9) : 0 < cn d x y := by
  have h := hO.cn g
  by_cases c : cn d x y ≤ 0
  · exact absurd (by unfold own; rw [if_pos c]) ho
  · omega
theorem mark_f (hO : OkD d) (g : inG d x y) (i1 : 0 ≤ i) (i2 : i < cn d x y) : (ownof d x y i = -9 ↔ rul d x y i = 5) ∧ (1 ≤ rul d x y i ∧ rul d x y i ≤ 5) ∧ (rul d x y i = 1 ↔ d 8 (pl x y i) ≠ -9) ∧ (rul d x y i = 3 → cn d x y = 1) ∧ (rul d x y i = 4 → cn d x y = 2) ∧ (rul d x y i = 3 → (ownof d x y i = 0 ↔ dst d (pl x y i) 0 < dst d (pl x y i) 1)) := by
  have hc := hO.cn g
  have hi := rul_in hO g i1 (by omega) (by omega)
  have hd := dec_lt i2
  have ho := own_in hO g
  have h3 : rul d x y i = 3 → cn d x y = 1 ∧ dec d x y i = -9 ∧ dec d x y (1 - i) = -9 ∧ own d x y ≠ -9 := fun z => by
    unfold rul at z
    by_cases c1 : dec d x y i = -9
    · rw [if_pos c1] at z
      by_cases c2 : dec d x y (1 - i) = -9
      · rw [if_pos c2] at z
        by_cases c3 : own d x y = -9
        · rw [if_pos c3] at z; omega
        · rw [if_neg c3] at z
          by_cases c4 : cn d x y = 1
          · exact ⟨c4, c1, c2, c3⟩
          · rw [if_neg c4] at z; omega
      · rw [if_neg c2] at z; omega
    · rw [if_neg c1] at z; omega
  refine ⟨?_, by omega, ?_, fun z => (h3 z).1, fun z => ?_, fun z => ?_⟩
  · omega
  · rw [← hd]
    unfold rul
    by_cases c1 : dec d x y i = -9
    · rw [if_pos c1]
      by_cases c2 : dec d x y (1 - i) = -9
      · rw [if_pos c2]
        by_cases c3 : own d x y = -9
        · rw [if_pos c3]; omega
        · rw [if_neg c3]
          by_cases c4 : cn d x y = 1
          · rw [if_pos c4]; omega
          · rw [if_neg c4]; omega
      · rw [if_neg c2]; omega
    · rw [if_neg c1]; omega
  · by_cases c4 : cn d x y = 1
    · exfalso
      unfold rul at z
      rw [if_pos c4] at z
      by_cases c1 : dec d x y i = -9
      · rw [if_pos c1] at z
        by_cases c2 : dec d x y (1 - i) = -9
        · rw [if_pos c2] at z
          by_cases c3 : own d x y = -9
          · rw [if_pos c3] at z; omega
          · rw [if_neg c3] at z; omega
        · rw [if_neg c2] at z; omega
      · rw [if_neg c1] at z; omega
    · omega
  · obtain ⟨e1, e2, e3, e4⟩ := h3 z
    have i0 : i = 0 := by omega
    subst i0
    have eo := own_A2 (d := d) (x := x) (y := y) (by omega) e2 e3
    have el : lean d x y = dst d (pl x y 0) 1 - dst d (pl x y 0) 0 := by
      unfold lean
      rw [if_neg (by omega)]; omega
    have ef : ownof d x y 0 = own d x y := by unfold ownof; rw [if_pos (Or.inl rfl)]
    rw [ef, eo]
    by_cases c1 : d 0 2 < zabs (lean d x y)
    · rw [if_pos c1]
      by_cases c2 : lean d x y ≤ 0
      · rw [if_pos c2]; omega
      · rw [if_neg c2]; omega
    · rw [if_neg c1] at eo; exact absurd eo e4
theorem sAt_k (hO : OkD d) (g : inG d x y) {k : Int} (hk : k = 0 ∨ k = 1) : sAt d k x y = -9 ↔ ¬ (own d x y ≠ -9 ∧ (own d x y = k ∨ cn d x y = 2)) := by
  have hc := hO.cn g
  have ho := own_in hO g
  unfold sAt
  by_cases c1 : own d x y = k
  · have c2 := own_cn hO g (by omega)
    have m := hO.mk g (i := 0) (by omega) c2
    unfold mkOk at m
    rw [if_pos c1, if_pos c2]
    omega
  · rw [if_neg c1]
    by_cases c2 : own d x y = -9
    · rw [if_pos c2]; omega
    · rw [if_neg c2]
      by_cases c3 : 1 < cn d x y
      · have m := hO.mk g (i := 1) (by omega) c3
        unfold mkOk at m
        rw [if_pos c3]; omega
      · rw [if_neg c3]; omega
theorem ownof_01 (i2 : i = 0 ∨ i = 1) : ownof d x y i = if own d x y = -9 then -9 else if i = 0 then own d x y else 1 - own d x y := by
  unfold ownof
  by_cases c : own d x y = -9
  · rw [if_pos (Or.inr c), if_pos c]; exact c
  · rw [if_neg c]
    by_cases c0 : i = 0
    · rw [if_pos (Or.inl c0), if_pos c0]
    · rw [if_neg (by omega), if_neg c0]
theorem dcd_cn (hO : OkD d) (g : inG d x y) : dcd d x y = zsum (cn d x y).toNat (fun i => if dec d x y i = -9 then 0 else 1) := by
  have hc := hO.cn g
  unfold dcd
  exact zsum_cut 2 (by omega) (fun i h1 h2 => by rw [if_pos (dec_ge (by omega))])
theorem has_oc (hO : OkD d) (g : inG d x y) : hasS d ((0 : Nat) : Int) x y + hasS d ((1 : Nat) : Int) x y = oc d x y := by
  have hc := hO.cn g
  have ho := own_in hO g
  have s0 := sAt_k hO g (k := ((0 : Nat) : Int)) (by omega)
  have s1 := sAt_k hO g (k := ((1 : Nat) : Int)) (by omega)
  unfold hasS oc
  by_cases c : own d x y = -9
  · rw [if_pos c, if_pos (s0.2 (by omega)), if_pos (s1.2 (by omega))]; rfl
  · have hp := own_cn hO g c
    rw [if_neg c]
    by_cases c2 : cn d x y = 2
    · rw [if_neg (fun z => s0.1 z ⟨c, Or.inr c2⟩), if_neg (fun z => s1.1 z ⟨c, Or.inr c2⟩)]; omega
    · by_cases c3 : own d x y = 0
      · rw [if_neg (fun z => s0.1 z ⟨c, Or.inl c3⟩), if_pos (s1.2 (by omega))]; omega
      · rw [if_neg (fun z => s1.1 z ⟨c, Or.inl (by omega)⟩), if_pos (s0.2 (by omega))]; omega
end Mf
theorem gsum_add2 {d : Nat → Nat → Int} {p q : Int → Int → Int} : gsum d (fun x y => p x y + q x y) = gsum d p + gsum d q := by
  unfold gsum
  rw [← zsum_add]
  exact zsum_congr _ (fun i _ => zsum_add _)
section Ms
variable {α : Type} {T : zT} {hz h : zH} {b C c n C1 : Nat} {σ : Sg} {Q : α → zH → Prop}
theorem mv3 (O : Ob T hz h b σ) {x y i : Int} (g : inG σ.1 x y) (i1 : 0 ≤ i) (i2 : i < cn σ.1 x y) : Cq T hz b (FL_call T b (iZ 5) (iZ x) (iZ y) (iZ i) (iZ 3) h) (σ.1 8 (pl x y i)) 2 σ := ca5 (k_mark O g i1 i2 (w := 3) (by omega) (by omega))
theorem mv4 (O : Ob T hz h b σ) {x y i : Int} (g : inG σ.1 x y) (i1 : 0 ≤ i) (i2 : i < cn σ.1 x y) : Cq T hz b (FL_call T b (iZ 5) (iZ x) (iZ y) (iZ i) (iZ 4) h) (ownof σ.1 x y i) 2 σ := ca5 (k_mark O g i1 i2 (w := 4) (by omega) (by omega))
theorem mv5 (O : Ob T hz h b σ) {x y i : Int} (g : inG σ.1 x y) (i1 : 0 ≤ i) (i2 : i < cn σ.1 x y) : Cq T hz b (FL_call T b (iZ 5) (iZ x) (iZ y) (iZ i) (iZ 5) h) (rul σ.1 x y i) 2 σ := ca5 (k_mark O g i1 i2 (w := 5) (by omega) (by omega))
theorem mv6 (O : Ob T hz h b σ) {x y i : Int} (g : inG σ.1 x y) (i1 : 0 ≤ i) (i2 : i < cn σ.1 x y) : Cq T hz b (FL_call T b (iZ 5) (iZ x) (iZ y) (iZ i) (iZ 6) h) (dst σ.1 (pl x y i) 0) 2 σ := ca5 (k_mark O g i1 i2 (w := 6) (by omega) (by omega))
theorem mv7 (O : Ob T hz h b σ) {x y i : Int} (g : inG σ.1 x y) (i1 : 0 ≤ i) (i2 : i < cn σ.1 x y) : Cq T hz b (FL_call T b (iZ 5) (iZ x) (iZ y) (iZ i) (iZ 7) h) (dst σ.1 (pl x y i) 1) 2 σ := ca5 (k_mark O g i1 i2 (w := 7) (by omega) (by omega))
theorem kat (O : Ob T hz h b σ) {x y k : Int} (hk : k = 0 ∨ k = 1) (g : inG σ.1 x y) {e : Int32} : Cq T hz b (FL_call T b (iZ 8) (iZ k) (iZ x) (iZ y) e h) (rd σ.1 k.toNat 1 (9 * x + y).toNat) 2 σ := by
  have r := ca8 (d := iZ y) (e := e) (k_at O (L := k.toNat) (by omega) g)
  rw [show ((k.toNat : Nat) : Int) = k by omega] at r
  exact r
def kbit (k : Int) : Int32 := if k = -9 then iZ 0 else iZ 1 <<< (iZ k &&& 31)
set_option maxHeartbeats 4000000 in
theorem m57 {K0 : Int32 → Int32 → Int32 → Int32 → zH → Option (α × zH × Nat)} {x31 x32 : Int32} {x y B E : Int} (O : Ob T hz h b σ) (g : inG σ.1 x y) (hK : ∀ h', Ob T hz h' b σ → Gd (K0 (iZ (B + oc σ.1 x y)) (iZ (E + dcd σ.1 x y)) (iZ 1) (iZ (mt σ.1 x y (cn σ.1 x y).toNat)) h') C1 Q) : Gd (LL_marks_57 T b x31 x32 (iZ y) (iZ x) (iZ (cn σ.1 x y)) K0 FUEL (iZ B) (iZ E) (iZ 1) (iZ 0) (iZ 0) h) (C1 + 24) Q := by
  have hO := O.ok
  have hc := hO.cn g
  have ho := own_in hO g
  have hr : (((cn σ.1 x y).toNat : Nat) : Int) = cn σ.1 x y := by omega
  refine gd_for (L := fun k i (s : Int32 × Int32 × Int32 × Int32) h => LL_marks_57 T b x31 x32 (iZ y) (iZ x) (iZ (cn σ.1 x y)) K0 k s.1 s.2.1 s.2.2.1 s.2.2.2 i h) (F := fun i => (iZ (B + (if own σ.1 x y = -9 then 0 else (i : Int))), iZ (E + zsum i (fun i => if dec σ.1 x y i = -9 then 0 else 1)), iZ 1, iZ (mt σ.1 x y i))) (s0 := (iZ B, iZ E, iZ 1, iZ 0)) (n := (cn σ.1 x y).toNat) (c := 12) (C1 := C1) (by omega) O ?_ (by omega) (fun k h O => ?_) (fun k i h D hi O kk => ?_)
  · have e1 : B + (if own σ.1 x y = -9 then 0 else ((0 : Nat) : Int)) = B := by split <;> omega
    have e2 : mt σ.1 x y 0 = 0 := by unfold mt; split <;> rfl
    show (iZ B, iZ E, iZ 1, iZ 0) = (iZ (B + (if own σ.1 x y = -9 then 0 else ((0 : Nat) : Int))), iZ (E + 0), iZ 1, iZ (mt σ.1 x y 0))
    rw [e1, e2, Int.add_zero]
  · show Gd (LL_marks_57 T b x31 x32 (iZ y) (iZ x) (iZ (cn σ.1 x y)) K0 (k + 1) (iZ (B + (if own σ.1 x y = -9 then 0 else (((cn σ.1 x y).toNat : Nat) : Int)))) (iZ (E + zsum (cn σ.1 x y).toNat (fun i => if dec σ.1 x y i = -9 then 0 else 1))) (iZ 1) (iZ (mt σ.1 x y (cn σ.1 x y).toNat)) (iZ (cn σ.1 x y).toNat) h) C1 Q
    rw [LL_marks_57, ← dcd_cn hO g, hr]
    exact gd_t (Int32.le_refl _) (hK h O)
  · replace kk : ∀ h', Ob T hz h' b σ → Gd (LL_marks_57 T b x31 x32 (iZ y) (iZ x) (iZ (cn σ.1 x y)) K0 k (iZ (B + (if own σ.1 x y = -9 then 0 else ((i + 1 : Nat) : Int)))) (iZ (E + zsum (i + 1) (fun i => if dec σ.1 x y i = -9 then 0 else 1))) (iZ 1) (iZ (mt σ.1 x y (i + 1))) (iZ ((i : Int) + 1)) h') D Q := kk
    show Gd (LL_marks_57 T b x31 x32 (iZ y) (iZ x) (iZ (cn σ.1 x y)) K0 (k + 1) (iZ (B + (if own σ.1 x y = -9 then 0 else (i : Int)))) (iZ (E + zsum i (fun i => if dec σ.1 x y i = -9 then 0 else 1))) (iZ 1) (iZ (mt σ.1 x y i)) (iZ i) h) (D + 12) Q
    have i1 : (0 : Int) ≤ (i : Int) := by omega
    have i2 : (i : Int) < cn σ.1 x y := by omega
    obtain ⟨f1, ⟨f2, f2'⟩, f3, f4, f5, f6⟩ := mark_f hO g i1 i2
    have fk := ownof_in hO (i := (i : Int)) g
    have fe := ownof_01 (d := σ.1) (x := x) (y := y) (i := (i : Int)) (by omega)
    have m8 := hO.mk g i1 i2
    have d0 := dst_le m8 (hO.lw (k := 0) (by omega))
    have d1 := dst_le m8 (hO.lw (k := 1) (by omega))
    have m8' : σ.1 8 (pl x y i) = -9 ∨ σ.1 8 (pl x y i) = 0 ∨ σ.1 8 (pl x y i) = 1 := m8.2.2.2.2.2.2
    have ed : (if dec σ.1 x y i = -9 then (0 : Int) else 1) = if rul σ.1 x y i = 1 then 1 else 0 := by
      rw [dec_lt i2]
      by_cases z : σ.1 8 (pl x y i) = -9
      · rw [if_pos z, if_neg (by omega)]
      · rw [if_neg z, if_pos (by omega)]
    rw [show zsum (i + 1) (fun i => if dec σ.1 x y i = -9 then (0 : Int) else 1) = zsum i (fun i => if dec σ.1 x y i = -9 then (0 : Int) else 1) + (if rul σ.1 x y i = 1 then 1 else 0) from by rw [← ed]; rfl, ← Int.add_assoc] at kk
    generalize hE2 : E + zsum i (fun i => if dec σ.1 x y i = -9 then (0 : Int) else 1) = E2 at kk ⊢
    rw [LL_marks_57]
    simp only [q0, q1, q2, q3, q4, q5, q6, q7, q8, qm9]
    refine gd_f (fun w => by have := (iZ_le (by omega) (by omega) (by omega) (by omega)).1 w; omega) ?_
    refine gd_J (fun J => ∀ h, Ob T hz h b σ → Gd (J (iZ (ownof σ.1 x y i)) (iZ (rul σ.1 x y i)) (iZ (if ownof σ.1 x y i = -9 then 1 else 0)) (iZ 1) h) (D + 8) Q) (fun h O => ?_) (fun J47 hJ47 => ?_)
    · refine gd_J (fun J => Gd (J (iZ (if ownof σ.1 x y i = -9 then 1 else 0)) (iZ (if ownof σ.1 x y i = -9 then 1 else 0)) (iZ 1)) (D + 8) Q) ?_ (fun J51 hJ51 => ?_)
      · refine gd_J (fun J => ∀ h, Ob T hz h b σ → Gd (J (iZ 1) (iZ 1) h) (D + 6) Q) (fun h O => ?_) (fun J55 hJ55 => ?_)
        · refine gd_J (fun J => ∀ h, Ob T hz h b σ → Gd (J (iZ 1) (iZ 1 &&& iZ 1) h) (D + 4) Q) (fun h O => ?_) (fun J59 hJ59 => ?_)
          · refine gd_J (fun J => ∀ h, Ob T hz h b σ → Gd (J (iZ 1) ((iZ 1 &&& iZ 1) &&& iZ 1) h) D Q) (fun h O => ?_) (fun J63 hJ63 => ?_)
            · refine gd_J (fun J => Gd (J (((iZ 1 &&& iZ 1) &&& iZ 1) &&& iZ 1) (kbit (ownof σ.1 x y i)) (iZ (mt σ.1 x y i))) D Q) ?_ (fun J67 hJ67 => ?_)
              · refine gd_J (fun J => Gd (J (iZ (mt σ.1 x y i) ||| kbit (ownof σ.1 x y i)) (iZ (if ownof σ.1 x y i = -9 then 0 else 1)) (iZ (B + (if own σ.1 x y = -9 then 0 else (i : Int))))) D Q) ?_ (fun J71 hJ71 => ?_)
                · refine gd_J (fun J => Gd (J (iZ (B + (if own σ.1 x y = -9 then 0 else (i : Int))) + iZ (if ownof σ.1 x y i = -9 then 0 else 1)) (iZ (if rul σ.1 x y i = 1 then 1 else 0)) (iZ E2)) D Q) ?_ (fun J75 hJ75 => ?_)
                  · have em : iZ (mt σ.1 x y i) ||| kbit (ownof σ.1 x y i) = iZ (mt σ.1 x y (i + 1)) := by
                      have hi2 : i = 0 ∨ i = 1 := by omega
                      rw [fe]
                      unfold mt kbit
                      rcases hi2 with z | z <;> subst z <;> rcases ho with o | o | o <;> rw [o] <;> decide
                    have eb : B + (if own σ.1 x y = -9 then 0 else (i : Int)) + (if ownof σ.1 x y i = -9 then 0 else 1) = B + (if own σ.1 x y = -9 then 0 else ((i + 1 : Nat) : Int)) := by
                      rw [fe]
                      by_cases z : own σ.1 x y = -9
                      · rw [if_pos z, if_pos z, if_pos z, if_pos rfl]; omega
                      · rw [if_neg z, if_neg z, if_neg z]
                        by_cases z0 : (i : Int) = 0
                        · rw [if_pos z0, if_neg z]; omega
                        · rw [if_neg z0, if_neg (by omega)]; omega
                    have e1 : (((iZ 1 &&& iZ 1) &&& iZ 1) &&& iZ 1) = iZ 1 := by decide
                    rw [em, e1, iZ_add, iZ_add, iZ_add, eb]
                    exact kk h O
                  · refine gd_eq (by omega) (by omega) (by omega) (by omega) (fun z => ?_) (fun z => ?_)
                    · rw [if_pos z] at hJ75; exact hJ75
                    · rw [if_neg z] at hJ75; exact hJ75
                · refine gd_eq (by omega) (by omega) (by omega) (by omega) (fun z => ?_) (fun z => ?_)
                  · rw [if_pos z] at hJ71; exact hJ71
                  · rw [if_neg z] at hJ71; exact hJ71
              · unfold kbit at hJ67
                refine gd_eq (by omega) (by omega) (by omega) (by omega) (fun z => ?_) (fun z => ?_)
                · rw [if_pos z] at hJ67; exact hJ67
                · rw [if_neg z] at hJ67; exact hJ67
            · refine gd_J (fun J => ∀ h, Ob T hz h b σ → Gd (J ((iZ 1 &&& iZ 1) &&& iZ 1) h) D Q) (fun h O => hJ63 h O) (fun J78 hJ78 => ?_)
              refine gd_eq (by omega) (by omega) (by omega) (by omega) (fun z => ?_) (fun z => (hJ78 h O).mono (by omega))
              refine gd_J (fun J => Gd (J (iZ (if ownof σ.1 x y i = 0 then 1 else 0)) ((iZ 1 &&& iZ 1) &&& iZ 1)) (D + 4) Q) ?_ (fun J81 hJ81 => ?_)
              · refine gd_J (fun J => ∀ h, Ob T hz h b σ → Gd (J (iZ (if ownof σ.1 x y i = 0 then 1 else 0)) (iZ (if ownof σ.1 x y i = 0 then 1 else 0)) ((iZ 1 &&& iZ 1) &&& iZ 1) h) D Q) (fun h O => gd_t rfl (hJ78 h O)) (fun J86 hJ86 => ?_)
                refine gd_cl (mv6 O g i1 i2) (by omega) (fun h O => ?_)
                refine gd_cl (mv7 O g i1 i2) (by omega) (fun h O => ?_)
                refine gd_le (by omega) (by omega) (by omega) (by omega) (fun w => ?_) (fun w => ?_)
                · rw [if_neg (by have := f6 z; omega)] at hJ86
                  rw [if_neg (by have := f6 z; omega)]
                  exact (hJ86 h O).mono (by omega)
                · rw [if_pos (by have := f6 z; omega)] at hJ86
                  rw [if_pos (by have := f6 z; omega)]
                  exact (hJ86 h O).mono (by omega)
              · refine gd_eq (by omega) (by omega) (by omega) (by omega) (fun z => ?_) (fun z => ?_)
                · rw [if_pos z] at hJ81; exact hJ81
                · rw [if_neg z] at hJ81; exact hJ81
          · refine gd_J (fun J => ∀ h, Ob T hz h b σ → Gd (J (iZ 1 &&& iZ 1) h) (D + 4) Q) (fun h O => hJ59 h O) (fun J97 hJ97 => ?_)
            refine gd_eq (by omega) (by omega) (by omega) (by omega) (fun z => (hJ97 h O).mono (by omega)) (fun z => ?_)
            refine gd_J (fun _ => True) trivial (fun J100 _ => ?_)
            have eb : (iZ (mt σ.1 x y i) >>> (iZ (ownof σ.1 x y i) &&& 31)) &&& iZ 1 = iZ 0 := by
              have hi2 : i = 0 ∨ i = 1 := by omega
              rw [fe] at z ⊢
              unfold mt
              rcases hi2 with w | w <;> subst w <;> rcases ho with o | o | o <;> rw [o] at z ⊢ <;> first | exact absurd rfl z | decide
            refine gd_t eb ?_
            have hk : ownof σ.1 x y i = 0 ∨ ownof σ.1 x y i = 1 := by omega
            refine gd_cl (kat O hk g) (by omega) (fun h O => ?_)
            have hs : sAt σ.1 (((ownof σ.1 x y i).toNat : Nat) : Int) x y ≠ -9 := fun w => by
              have q := (sAt_k hO g (k := (((ownof σ.1 x y i).toNat : Nat) : Int)) (by omega)).1 w
              rw [fe] at z q
              by_cases o : own σ.1 x y = -9
              · rw [if_pos o] at z; exact z rfl
              · rw [if_neg o] at z q
                by_cases i0 : (i : Int) = 0
                · rw [if_pos i0] at z q; exact q ⟨o, Or.inl (by omega)⟩
                · exact q ⟨o, Or.inr (by omega)⟩
            have ha := (rd_none (L := (ownof σ.1 x y i).toNat) hO g).2 hs
            have hb := (rd_sg hO (ownof σ.1 x y i).toNat).2 (9 * x + y).toNat (by have := hO.g9 g; omega)
            exact gd_lt (by omega) (by omega) (by omega) (by omega) (fun w => by omega) (fun _ => (hJ97 h O).mono (by omega))
        · refine gd_J (fun _ => True) trivial (fun J107 _ => ?_)
          refine gd_t rfl ?_
          refine gd_J (fun J => Gd (J (iZ (if rul σ.1 x y i = 1 then 1 else 0)) (iZ 1)) (D + 8) Q) ?_ (fun J110 hJ110 => ?_)
          · refine gd_J (fun J => ∀ h, Ob T hz h b σ → Gd (J (iZ (if rul σ.1 x y i = 1 then 1 else 0)) (iZ (if rul σ.1 x y i = 1 then 1 else 0)) (iZ 1) h) (D + 6) Q) (fun h O => ?_) (fun J115 hJ115 => ?_)
            · refine gd_t rfl ?_
              refine gd_J (fun J => Gd (J (iZ 1)) (D + 6) Q) ?_ (fun J117 hJ117 => ?_)
              · refine gd_J (fun J => Gd (J (iZ 1)) (D + 6) Q) (hJ55 h O) (fun J119 hJ119 => ?_)
                refine gd_eq (by omega) (by omega) (by omega) (by omega) (fun z => ?_) (fun z => hJ119)
                exact gd_t ((iZ_eq (by omega) (by omega) (by omega) (by omega)).2 (f5 z)) hJ119
              · refine gd_eq (by omega) (by omega) (by omega) (by omega) (fun z => ?_) (fun z => hJ117)
                exact gd_t ((iZ_eq (by omega) (by omega) (by omega) (by omega)).2 (f4 z)) hJ117
            · refine gd_cl (mv3 O g i1 i2) (by omega) (fun h O => ?_)
              refine gd_eq (by omega) (by omega) (by omega) (by omega) (fun w => ?_) (fun w => ?_)
              · rw [if_neg (by omega)] at hJ115
                rw [if_neg (by omega)]
                exact (hJ115 h O).mono (by omega)
              · rw [if_pos (by omega)] at hJ115
                rw [if_pos (by omega)]
                exact (hJ115 h O).mono (by omega)
          · refine gd_eq (by omega) (by omega) (by omega) (by omega) (fun z => ?_) (fun z => ?_)
            · rw [if_pos z] at hJ110; exact hJ110
            · rw [if_neg z] at hJ110; exact hJ110
      · refine gd_eq (by omega) (by omega) (by omega) (by omega) (fun z => ?_) (fun z => ?_)
        · rw [if_pos (by omega)] at hJ51 ⊢; exact hJ51
        · rw [if_neg (by omega)] at hJ51 ⊢; exact hJ51
    · refine gd_cl (mv4 O g i1 i2) (by omega) (fun h O => ?_)
      refine gd_cl (mv5 O g i1 i2) (by omega) (fun h O => ?_)
      refine gd_eq (by omega) (by omega) (by omega) (by omega) (fun z => ?_) (fun z => ?_)
      · rw [if_pos z] at hJ47; exact (hJ47 h O).mono (by omega)
      · rw [if_neg z] at hJ47; exact (hJ47 h O).mono (by omega)
end Ms
