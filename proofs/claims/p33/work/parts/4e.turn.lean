/-! a Sheet is turned by a quarter -/
def tX (e : Nat → Nat → Int) (y : Int) : Int := e 0 1 - 1 - y
def DoneC (e dd : Nat → Nat → Int) (x y : Int) : Prop := dd 4 (9 * tX e y + x).toNat = cn e x y ∧ ∀ i, 0 ≤ i → i < cn e x y → dd 5 (pl (tX e y) x i) = e 5 (pl x y i) ∧ dd 6 (pl (tX e y) x i) = e 6 (pl x y i) ∧ dd 7 (pl (tX e y) x i) = 8 - e 7 (pl x y i) ∧ dd 8 (pl (tX e y) x i) = e 8 (pl x y i)
/-- only the cell (X, Y) may have changed -/
def cellF (dd dd' : Nat → Nat → Int) (X Y : Int) : Prop := (∀ r, r < 4 → dd' r = dd r) ∧ (∀ q, q ≠ (9 * X + Y).toNat → dd' 4 q = dd 4 q) ∧ ∀ q, q ≠ pl X Y 0 → q ≠ pl X Y 1 → dd' 5 q = dd 5 q ∧ dd' 6 q = dd 6 q ∧ dd' 7 q = dd 7 q ∧ dd' 8 q = dd 8 q
theorem DoneC_kept {e dd dd' : Nat → Nat → Int} (hO : OkD e) {x y x' y' : Int} (g : inG e x y) (g' : inG e x' y') (ne : ¬ (x' = x ∧ y' = y)) (hF : cellF dd dd' (tX e y) x) (hD : DoneC e dd x' y') : DoneC e dd' x' y' := by
  have g9 := hO.g9 g
  have g9' := hO.g9 g'
  have w := hO.wh
  unfold inG at g g'
  have hc := hO.cn g'
  obtain ⟨f1, f2, f3⟩ := hF
  obtain ⟨d1, d2⟩ := hD
  refine ⟨?_, fun i i1 i2 => ?_⟩
  · rw [f2 _ (by unfold tX; omega)]; exact d1
  · obtain ⟨m5, m6, m7, m8⟩ := f3 (pl (tX e y') x' i) (by unfold pl tX; omega) (by unfold pl tX; omega)
    rw [m5, m6, m7, m8]
    exact d2 i i1 i2
section Tc
variable {T : zT} {hz h : zH} {b c : Nat} {dd e : Nat → Nat → Int}
theorem turnCell_eq (hS : ShAt T h b dd) (hC : ShAt T h c e) (hO : OkD e) (hd : b + 16 < c ∨ c + 16 < b) {x y : Int} (g : inG e x y) : ∃ h' dd', FX3_turnCell T b c (iZ x) (iZ y) h = some h' ∧ ShAt T h' b dd' ∧ ShAt T h' c e ∧ DoneC e dd' x y ∧ cellF dd dd' (tX e y) x ∧ offS b h h' := by
  have g9 := hO.g9 g
  have hcn := hO.cn g
  have g0 := g
  unfold inG at g
  obtain ⟨⟨o1, o2, o3, o4, -⟩, -⟩ := id hO
  have hX : 0 ≤ tX e y ∧ tX e y < 9 := by unfold tX; omega
  have fin : ∀ (g2 : zH) (d2 : Nat → Nat → Int), ShAt T g2 b d2 → ShAt T g2 c e → offS b h g2 → (∀ r, r < 5 → d2 r = dd r) → (∀ j : Int, 0 ≤ j → j < cn e x y → d2 5 (pl (tX e y) x j) = e 5 (pl x y j) ∧ d2 6 (pl (tX e y) x j) = e 6 (pl x y j) ∧ d2 7 (pl (tX e y) x j) = 8 - e 7 (pl x y j) ∧ d2 8 (pl (tX e y) x j) = e 8 (pl x y j)) → (∀ q, q ≠ pl (tX e y) x 0 → q ≠ pl (tX e y) x 1 → d2 5 q = dd 5 q ∧ d2 6 q = dd 6 q ∧ d2 7 q = dd 7 q ∧ d2 8 q = dd 8 q) → ∃ h' dd', ((zgr g2 b 3 7).bind fun x31 => (FX6_cellOf T (iZ (tX e y)) (iZ x) g2).bind fun x33 => (FX3_marksIn T c (iZ x) (iZ y) g2).bind fun x35 => (FX1_put T x31 x33 x35 g2).bind fun h37 => some h37) = some h' ∧ ShAt T h' b dd' ∧ ShAt T h' c e ∧ DoneC e dd' x y ∧ cellF dd dd' (tX e y) x ∧ offS b h h' := by
    intro g2 d2 s2 c2 f2 a1 a2 a3
    obtain ⟨g3, e3, s3, f3⟩ := sh_put' (v := cn e x y) s2 (r := 4) (i := 9 * tX e y + x) (by omega) (by omega) (by omega) (by show _ < ((81 : Nat) : Int); omega)
    refine ⟨g3, _, ?_, s3, f3.sh c2 hd, ⟨?_, fun j j1 j2 => ?_⟩, ⟨fun r hr => ?_, fun q hq => ?_, fun q q0 q1 => ?_⟩, f2.trans f3⟩
    · rw [sh_r4 s2, zsn, cellOf_eq, zsn, marksIn_t c2 hO g0, zsn, e3, zsn]
    · rw [dput_self, upZ_self]
    · rw [dput_ne (by omega), dput_ne (by omega), dput_ne (by omega), dput_ne (by omega)]
      exact a2 j j1 j2
    · rw [dput_ne (by omega)]; exact a1 r (by omega)
    · rw [dput_self, upZ_ne _ _ hq, a1 4 (by omega)]
    · rw [dput_ne (by omega), dput_ne (by omega), dput_ne (by omega), dput_ne (by omega)]
      exact a3 q q0 q1
  unfold FX3_turnCell
  rw [sh_zo hS, zsn, sh_g1 hC, zsn, q1, q0, iZ_sub, iZ_sub]
  show ∃ h' dd', LX3_turnCell_16 T b c (iZ x) (iZ y) (iZ (tX e y)) (iZ x) _ FUEL (iZ 0) h = some h' ∧ _
  refine Exists.elim (loop_inv0 (L := LX3_turnCell_16 T b c (iZ x) (iZ y) (iZ (tX e y)) (iZ x) (fun (h30 : zH) => (zgr h30 b 3 7).bind fun x31 => (FX6_cellOf T (iZ (tX e y)) (iZ x) h30).bind fun x33 => (FX3_marksIn T c (iZ x) (iZ y) h30).bind fun x35 => (FX1_put T x31 x33 x35 h30).bind fun h37 => some h37)) (K := fun (h30 : zH) => (zgr h30 b 3 7).bind fun x31 => (FX6_cellOf T (iZ (tX e y)) (iZ x) h30).bind fun x33 => (FX3_marksIn T c (iZ x) (iZ y) h30).bind fun x35 => (FX1_put T x31 x33 x35 h30).bind fun h37 => some h37) (I := fun i g2 => ∃ d2, ShAt T g2 b d2 ∧ ShAt T g2 c e ∧ offS b h g2 ∧ (∀ r, r < 5 → d2 r = dd r) ∧ (∀ j : Int, 0 ≤ j → j < i → d2 5 (pl (tX e y) x j) = e 5 (pl x y j) ∧ d2 6 (pl (tX e y) x j) = e 6 (pl x y j) ∧ d2 7 (pl (tX e y) x j) = 8 - e 7 (pl x y j) ∧ d2 8 (pl (tX e y) x j) = e 8 (pl x y j)) ∧ (∀ q, q ≠ pl (tX e y) x 0 → q ≠ pl (tX e y) x 1 → d2 5 q = dd 5 q ∧ d2 6 q = dd 6 q ∧ d2 7 q = dd 7 q ∧ d2 8 q = dd 8 q)) (n := (cn e x y).toNat) (by omega) (fun k i g2 hi hI => ?_) (fun k g2 hI => ?_) (h := h) ⟨dd, hS, hC, offS.refl b h, fun _ _ => rfl, fun j j1 j2 => by omega, fun _ _ _ => ⟨rfl, rfl, rfl, rfl⟩⟩) ?_
  · obtain ⟨d2, s2, c2, f2, a1, a2, a3⟩ := hI
    have at5 : FX1_at T (c + 9) (iZ (2 * (9 * x + y) + i)) g2 = some (iZ (e 5 (pl x y i))) := at_in (sh_n5 c2) (by omega) (by omega) (by omega)
    have at6 : FX1_at T (c + 11) (iZ (2 * (9 * x + y) + i)) g2 = some (iZ (e 6 (pl x y i))) := at_in (sh_n6 c2) (by omega) (by omega) (by omega)
    have at7 : FX1_at T (c + 13) (iZ (2 * (9 * x + y) + i)) g2 = some (iZ (e 7 (pl x y i))) := at_in (sh_n7 c2) (by omega) (by omega) (by omega)
    have at8 : FX1_at T (c + 15) (iZ (2 * (9 * x + y) + i)) g2 = some (iZ (e 8 (pl x y i))) := at_in (sh_n8 c2) (by omega) (by omega) (by omega)
    obtain ⟨g3, e3, s3, f3⟩ := putMark_eq s2 (p := 2 * (9 * tX e y + x) + i) (s := e 5 (pl x y i)) (k := e 6 (pl x y i)) (w := 8 - e 7 (pl x y i)) (e := e 8 (pl x y i)) (by omega) (by omega)
    have ep : (2 * (9 * tX e y + x) + (i : Int)).toNat = pl (tX e y) x i := rfl
    rw [ep] at s3
    refine ⟨g3, ?_, _, s3, f3.sh c2 hd, f2.trans f3, fun r hr => ?_, fun j j1 j2 => ?_, fun q z0 z1 => ?_⟩
    · rw [LX3_turnCell_16.eq_2]
      simp (disch := omega) only [marksIn_t c2 hO g0, zsn, iZ_le, if_neg, placeOf_eq, sh_r5 c2, sh_r6 c2, sh_r7 c2, sh_r8 c2, at5, at6, at7, at8, q8, iZ_sub, e3, q1, iZ_add]
    · rw [dmark_lo hr]; exact a1 r hr
    · rw [dmark_5, dmark_6, dmark_7, dmark_8]
      by_cases cj : j = i
      · rw [cj, upZ_self, upZ_self, upZ_self, upZ_self]
        exact ⟨rfl, rfl, rfl, rfl⟩
      · have hp : pl (tX e y) x j ≠ pl (tX e y) x i := by unfold pl; omega
        rw [upZ_ne _ _ hp, upZ_ne _ _ hp, upZ_ne _ _ hp, upZ_ne _ _ hp]
        exact a2 j j1 (by omega)
    · have hp : q ≠ pl (tX e y) x i := by
        rcases (show i = 0 ∨ i = 1 by omega) with rfl | rfl
        · exact z0
        · exact z1
      rw [dmark_5, dmark_6, dmark_7, dmark_8, upZ_ne _ _ hp, upZ_ne _ _ hp, upZ_ne _ _ hp, upZ_ne _ _ hp]
      exact a3 q z0 z1
  · obtain ⟨d2, s2, c2, f2, a1, a2, a3⟩ := hI
    rw [LX3_turnCell_16.eq_2]
    simp (disch := omega) only [marksIn_t c2 hO g0, zsn, iZ_le, if_pos]
  · rintro g2 ⟨e2, d2, s2, c2, f2, a1, a2, a3⟩
    obtain ⟨h', dd', z1, z2, z3, z4, z5, z6⟩ := fin g2 d2 s2 c2 f2 a1 (fun j j1 j2 => a2 j j1 (by omega)) a3
    exact ⟨h', dd', e2.trans z1, z2, z3, z4, z5, z6⟩
end Tc
