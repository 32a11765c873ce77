/-! the same readings with another gap than the sheet's own -/
section Gp
variable {T : zT} {hz h : zH} {R b : Nat} {w d : Nat → Nat → Int} {qq : Int}
theorem own_gp (x y : Int) : own (dput d 0 3 qq) x y = own d x y := rfl
theorem sAt_gp (L x y : Int) : sAt (dput d 0 3 qq) L x y = sAt d L x y := rfl
theorem gp_gp (g : Int) : dput (dput d 0 3 g) 0 3 (d 0 3) = d := by
  funext i j
  by_cases c : i = 0
  · subst c
    show upZ (upZ (d 0) 3 g) 3 (d 0 3) j = d 0 j
    rw [upZ_up]
    unfold upZ
    by_cases e : j = 3
    · rw [if_pos e, e]
    · rw [if_neg e]
  · rw [dput_ne c, dput_ne c]
theorem inG_gp (x y : Int) : inG (dput d 0 3 qq) x y ↔ inG d x y := d0_in (by omega) x y
theorem ownG (hC : ShAt T h b (dput d 0 3 qq)) (hQ : OkD (dput d 0 3 qq)) {x y : Int} (g : inG d x y) : FX3_ownerOfFirst T b (iZ x) (iZ y) h = some (iZ (own d x y)) := own_eq hC hQ ((inG_gp x y).mpr g)
theorem hasMarkG_t (hC : ShAt T h b (dput d 0 3 qq)) (hQ : OkD (dput d 0 3 qq)) {x y i : Int} (g : inG d x y) (i1 : 0 ≤ i) (i2 : i < cn d x y) : FX3_hasMark T b (iZ x) (iZ y) (iZ i) h = some (iZ 1) := hasMark_t hC hQ ((inG_gp x y).mpr g) i1 i2
theorem hasMarkG_f (hC : ShAt T h b (dput d 0 3 qq)) (hQ : OkD (dput d 0 3 qq)) {x y i : Int} (x1 : -2147483648 ≤ x) (x2 : x < 2147483648) (y1 : -2147483648 ≤ y) (y2 : y < 2147483648) (i1 : -2147483648 ≤ i) (i2 : i < 2147483648) (g : ¬ (inG d x y ∧ 0 ≤ i ∧ i < cn d x y)) : FX3_hasMark T b (iZ x) (iZ y) (iZ i) h = some (iZ 0) := hasMark_f hC hQ x1 x2 y1 y2 i1 i2 (fun z => g ⟨(inG_gp x y).mp z.1, z.2⟩)
theorem sh_g0G (hC : ShAt T h b (dput d 0 3 qq)) : zgi h b 3 0 = some (iZ (d 0 0)) := by
  have z := sh_g0 hC
  exact z
theorem sh_g1G (hC : ShAt T h b (dput d 0 3 qq)) : zgi h b 3 1 = some (iZ (d 0 1)) := by
  have z := sh_g1 hC
  exact z
theorem sh_n5G (hC : ShAt T h b (dput d 0 3 qq)) : Num T h (b + 9) 162 (d 5) := by
  have z := sh_n5 hC
  exact z
theorem sh_n3G (hC : ShAt T h b (dput d 0 3 qq)) : Num T h (b + 5) 2 (d 3) := by
  have z := sh_n3 hC
  exact z
theorem sign_eqG (hS : RdAt T h R w) (hW : RdOk w 80) (hC : ShAt T h b (dput d 0 3 qq)) (hQ : OkD (dput d 0 3 qq)) (hO : OkD d) (hd : R + 6 < b ∨ b + 16 < R) {x y i l p : Int} (g : inG d x y) (i1 : 0 ≤ i) (i2 : i < 2) (l1 : 0 ≤ l) (l2 : l < 9) (p1 : 0 ≤ p) (p2 : p < 9) {ρ : Type} (K : zH → Option ρ) : ∃ h', ((FX2_goTo T R (iZ l) (iZ p) (iZ (d 0 3)) h).bind fun h43 => (zgr h43 b 3 8).bind fun x44 => (FX6_placeOf T (iZ x) (iZ y) (iZ i) h43).bind fun x46 => (FX1_at T x44 x46 h43).bind fun x48 => (FX2_takeSign T R x48 h43).bind fun h50 => (zgr h50 R 2 2).bind fun x51 => (FX6_cellOf T (iZ x) (iZ y) h50).bind fun x53 => (zgi h50 R 2 0).bind fun x54 => (FX1_put T x51 x53 (x54 - 1) h50).bind fun h56 => K h56) = K h' ∧ RdAt T h' R (wst w (9 * x + y).toNat l p (d 0 3) (d 5 (pl x y i))) ∧ offR R h h' := by
  have g9 := hO.g9 g
  obtain ⟨⟨o1, o2, o3, o4, o5, o6, o7, o8⟩, -⟩ := id hO
  obtain ⟨g1, e1, s1, f1⟩ := goTo_eq hS hW l1 l2 p1 p2 (g := d 0 3) (by omega) (by omega)
  obtain ⟨a1, a2, a3, a4, a5⟩ := wgo1_c (l := l) (p := p) (g := d 0 3) hW
  have h5 : wgo w l p (d 0 3) 0 5 = wgo1 w l p (d 0 3) 0 5 := wgo_v (by omega) (by omega)
  have c1 := f1.sh hC hd
  obtain ⟨g2, e2, s2, f2⟩ := takeSign_eq s1 (s := d 5 (pl x y i)) (by omega) (by have := hW.2.2.2.2.2.1; omega)
  obtain ⟨g3, e3, s3, f3⟩ := rd_put (v := wtk (wgo w l p (d 0 3)) (d 5 (pl x y i)) 0 0 - 1) s2 (r := 1) (i := 9 * x + y) (by omega) (by omega) (by omega) (by omega)
  have a : FX1_at T (b + 9) (iZ (2 * (9 * x + y) + i)) g1 = some (iZ (d 5 (pl x y i))) := at_in (sh_n5G c1) (by omega) (by omega) (by omega)
  exact ⟨g3, by rw [e1, zsn, sh_r5 c1, zsn, placeOf_eq, zsn, a, zsn, e2, zsn, rd_r1 s2, zsn, cellOf_eq, zsn, rd_g0 s2, zsn, q1, iZ_sub, e3, zsn], s3, (f1.trans f2).trans f3⟩
theorem cell_eqG (hS : RdAt T h R w) (hW : RdOk w 80) (hC : ShAt T h b (dput d 0 3 qq)) (hQ : OkD (dput d 0 3 qq)) (hO : OkD d) (hd : R + 6 < b ∨ b + 16 < R) {L f fl l p : Int} (hL : L = 0 ∨ L = 1) (hfl : (f = 0 ∧ fl = 1) ∨ (f ≠ 0 ∧ fl = 0)) (l1 : 0 ≤ l) (l2 : l < nL d f) (p1 : 0 ≤ p) (p2 : p < nP d f) {ρ : Type} (K : zH → Option ρ) (k : Nat) (z : Int32) : ∃ h', LX2_readLetter_91 T R b (iZ L) (iZ (d 0 3)) (iZ fl) z (iZ (nP d f)) (iZ l) K (k + 1) (iZ p) h = LX2_readLetter_91 T R b (iZ L) (iZ (d 0 3)) (iZ fl) z (iZ (nP d f)) (iZ l) K k (iZ (p + 1)) h' ∧ RdAt T h' R (wcell d L f w l p) ∧ offR R h h' := by
  have g := cXY_in (d := d) l1 l2 p1 p2
  have g9 := hO.g9 g
  have hcn := hO.cn g
  have ho := own_in hO g
  obtain ⟨w1, w2, w3, w4⟩ := hO.wh
  have nl9 : nL d f ≤ 9 := by unfold nL; split <;> omega
  have np9 : nP d f ≤ 9 := by unfold nP; split <;> omega
  have e1 : LX2_readLetter_91 T R b (iZ L) (iZ (d 0 3)) (iZ fl) z (iZ (nP d f)) (iZ l) K (k + 1) (iZ p) h = (if iZ (own d (cX f l p) (cY f l p)) = iZ L then (if 0 < cn d (cX f l p) (cY f l p) then ((FX2_goTo T R (iZ l) (iZ p) (iZ (d 0 3)) h).bind fun h43 => (zgr h43 b 3 8).bind fun x44 => (FX6_placeOf T (iZ (cX f l p)) (iZ (cY f l p)) (iZ 0) h43).bind fun x46 => (FX1_at T x44 x46 h43).bind fun x48 => (FX2_takeSign T R x48 h43).bind fun h50 => (zgr h50 R 2 2).bind fun x51 => (FX6_cellOf T (iZ (cX f l p)) (iZ (cY f l p)) h50).bind fun x53 => (zgi h50 R 2 0).bind fun x54 => (FX1_put T x51 x53 (x54 - 1) h50).bind fun h56 => LX2_readLetter_91 T R b (iZ L) (iZ (d 0 3)) (iZ fl) z (iZ (nP d f)) (iZ l) K k (iZ (p + 1)) h56) else LX2_readLetter_91 T R b (iZ L) (iZ (d 0 3)) (iZ fl) z (iZ (nP d f)) (iZ l) K k (iZ (p + 1)) h) else if own d (cX f l p) (cY f l p) = -9 then LX2_readLetter_91 T R b (iZ L) (iZ (d 0 3)) (iZ fl) z (iZ (nP d f)) (iZ l) K k (iZ (p + 1)) h else (if 1 < cn d (cX f l p) (cY f l p) then ((FX2_goTo T R (iZ l) (iZ p) (iZ (d 0 3)) h).bind fun h43 => (zgr h43 b 3 8).bind fun x44 => (FX6_placeOf T (iZ (cX f l p)) (iZ (cY f l p)) (iZ 1) h43).bind fun x46 => (FX1_at T x44 x46 h43).bind fun x48 => (FX2_takeSign T R x48 h43).bind fun h50 => (zgr h50 R 2 2).bind fun x51 => (FX6_cellOf T (iZ (cX f l p)) (iZ (cY f l p)) h50).bind fun x53 => (zgi h50 R 2 0).bind fun x54 => (FX1_put T x51 x53 (x54 - 1) h50).bind fun h56 => LX2_readLetter_91 T R b (iZ L) (iZ (d 0 3)) (iZ fl) z (iZ (nP d f)) (iZ l) K k (iZ (p + 1)) h56) else LX2_readLetter_91 T R b (iZ L) (iZ (d 0 3)) (iZ fl) z (iZ (nP d f)) (iZ l) K k (iZ (p + 1)) h)) := by
    have hown := ownG hC hQ g
    rw [LX2_readLetter_91.eq_2, if_neg (by rw [iZ_le (by omega) (by omega) (by omega) (by omega)]; omega)]
    rcases hfl with ⟨c, rfl⟩ | ⟨c, rfl⟩
    · have ex : cX f l p = p := if_pos c
      have ey : cY f l p = l := if_pos c
      rw [ex, ey] at g ho hcn hown ⊢
      simp only [zJn, if_neg (show ¬ iZ 1 = (0 : Int32) by decide)]
      simp only [hown, zsn]
      by_cases c1 : iZ (own d (p) (l)) = iZ L
      · rw [if_pos c1, if_pos c1]
        have c9 : own d (p) (l) ≠ -9 := by
          rw [iZ_eq (by omega) (by omega) (by omega) (by omega)] at c1
          omega
        rw [if_neg (by rw [qm9, iZ_eq (by omega) (by omega) (by omega) (by omega)]; exact c9)]
        by_cases c2 : 0 < cn d (p) (l)
        · rw [if_pos c2, q0, hasMarkG_t hC hQ g (by omega) c2, zsn, if_neg (by decide), q1, iZ_add]
        · rw [if_neg c2, q0, hasMarkG_f hC hQ (by omega) (by omega) (by omega) (by omega) (by omega) (by omega) (fun z => c2 z.2.2), zsn, if_pos rfl, q1, iZ_add]
      · rw [if_neg c1, if_neg c1]
        by_cases c9 : own d (p) (l) = -9
        · rw [if_pos c9, if_pos (by rw [c9]; rfl), q1, iZ_add]
        · rw [if_neg c9, if_neg (by rw [qm9, iZ_eq (by omega) (by omega) (by omega) (by omega)]; exact c9)]
          by_cases c2 : 1 < cn d (p) (l)
          · rw [if_pos c2, q1, hasMarkG_t hC hQ g (by omega) c2, zsn, q0, if_neg (by decide), iZ_add]
          · rw [if_neg c2, q1, hasMarkG_f hC hQ (by omega) (by omega) (by omega) (by omega) (by omega) (by omega) (fun z => c2 z.2.2), zsn, q0, if_pos rfl, iZ_add]
    · have ex : cX f l p = l := if_neg c
      have ey : cY f l p = p := if_neg c
      rw [ex, ey] at g ho hcn hown ⊢
      simp only [zJn, if_pos (show iZ 0 = (0 : Int32) from rfl)]
      simp only [hown, zsn]
      by_cases c1 : iZ (own d (l) (p)) = iZ L
      · rw [if_pos c1, if_pos c1]
        have c9 : own d (l) (p) ≠ -9 := by
          rw [iZ_eq (by omega) (by omega) (by omega) (by omega)] at c1
          omega
        rw [if_neg (by rw [qm9, iZ_eq (by omega) (by omega) (by omega) (by omega)]; exact c9)]
        by_cases c2 : 0 < cn d (l) (p)
        · rw [if_pos c2, q0, hasMarkG_t hC hQ g (by omega) c2, zsn, if_neg (by decide), q1, iZ_add]
        · rw [if_neg c2, q0, hasMarkG_f hC hQ (by omega) (by omega) (by omega) (by omega) (by omega) (by omega) (fun z => c2 z.2.2), zsn, if_pos rfl, q1, iZ_add]
      · rw [if_neg c1, if_neg c1]
        by_cases c9 : own d (l) (p) = -9
        · rw [if_pos c9, if_pos (by rw [c9]; rfl), q1, iZ_add]
        · rw [if_neg c9, if_neg (by rw [qm9, iZ_eq (by omega) (by omega) (by omega) (by omega)]; exact c9)]
          by_cases c2 : 1 < cn d (l) (p)
          · rw [if_pos c2, q1, hasMarkG_t hC hQ g (by omega) c2, zsn, q0, if_neg (by decide), iZ_add]
          · rw [if_neg c2, q1, hasMarkG_f hC hQ (by omega) (by omega) (by omega) (by omega) (by omega) (by omega) (fun z => c2 z.2.2), zsn, q0, if_pos rfl, iZ_add]
  rw [e1]
  unfold wcell sAt
  by_cases c1 : own d (cX f l p) (cY f l p) = L
  · rw [if_pos (by rw [c1]), if_pos c1]
    by_cases c2 : 0 < cn d (cX f l p) (cY f l p)
    · have hm := (hO.mk g (i := 0) (by omega) c2).1
      rw [if_pos c2, if_pos c2, if_neg (by omega)]
      exact sign_eqG hS hW hC hQ hO hd g (by omega) (by omega) l1 (by omega) p1 (by omega) _
    · rw [if_neg c2, if_neg c2, if_pos rfl]
      exact ⟨h, rfl, hS, offR.refl R h⟩
  · rw [if_neg (by rw [iZ_eq (by omega) (by omega) (by omega) (by omega)]; exact c1), if_neg c1]
    by_cases c9 : own d (cX f l p) (cY f l p) = -9
    · rw [if_pos c9, if_pos c9, if_pos rfl]
      exact ⟨h, rfl, hS, offR.refl R h⟩
    · rw [if_neg c9, if_neg c9]
      by_cases c2 : 1 < cn d (cX f l p) (cY f l p)
      · have hm := (hO.mk g (i := 1) (by omega) c2).1
        rw [if_pos c2, if_pos c2, if_neg (by omega)]
        exact sign_eqG hS hW hC hQ hO hd g (by omega) (by omega) l1 (by omega) p1 (by omega) _
      · rw [if_neg c2, if_neg c2, if_pos rfl]
        exact ⟨h, rfl, hS, offR.refl R h⟩
theorem line_eqG (hS : RdAt T h R w) (hC : ShAt T h b (dput d 0 3 qq)) (hQ : OkD (dput d 0 3 qq)) (hO : OkD d) (hd : R + 6 < b ∨ b + 16 < R) {L f fl : Int} (hL : L = 0 ∨ L = 1) (hfl : (f = 0 ∧ fl = 1) ∨ (f ≠ 0 ∧ fl = 0)) {l : Nat} (hW : RdOk w (9 * l)) (l2 : l < nL d f) {ρ : Type} (K : zH → Option ρ) (z : Int32) : ∃ h', LX2_readLetter_91 T R b (iZ L) (iZ (d 0 3)) (iZ fl) z (iZ (nP d f)) (iZ l) K FUEL (iZ 0) h = K h' ∧ RdAt T h' R (wline d L f l w (nP d f)) ∧ offR R h h' := by
  obtain ⟨a, c⟩ := nLP hO f
  refine Exists.elim (loop_inv0 (L := LX2_readLetter_91 T R b (iZ L) (iZ (d 0 3)) (iZ fl) z (iZ (nP d f)) (iZ l) K) (K := K) (I := fun p g => RdAt T g R (wline d L f l w p) ∧ offR R h g) (n := nP d f) (by omega) (fun k p g hp hI => ?_) (fun k g hI => ?_) (h := h) ⟨hS, offR.refl R h⟩) ?_
  · obtain ⟨s1, f1⟩ := hI
    have hk := RdOk_line hO (L := L) hW l2 p (by omega)
    obtain ⟨g2, e2, s2, f2⟩ := cell_eqG s1 (hk.mono (by omega)) (f1.sh hC hd) hQ hO hd hL hfl (l := l) (p := p) (by omega) (by omega) (by omega) (by omega) K k z
    exact ⟨g2, e2, s2, f1.trans f2⟩
  · rw [LX2_readLetter_91.eq_2, if_pos (by exact Int32.le_refl _)]
  · rintro g ⟨e, s1, f1⟩
    exact ⟨g, e, s1, f1⟩
theorem lines_eqG (hS : RdAt T h R w) (hC : ShAt T h b (dput d 0 3 qq)) (hQ : OkD (dput d 0 3 qq)) (hO : OkD d) (hd : R + 6 < b ∨ b + 16 < R) {L f fl : Int} (hL : L = 0 ∨ L = 1) (hfl : (f = 0 ∧ fl = 1) ∨ (f ≠ 0 ∧ fl = 0)) (hW : RdOk w 0) {ρ : Type} (K : zH → Option ρ) : ∃ h', LX2_readLetter_81 T R b (iZ L) (iZ (d 0 3)) (iZ fl) (iZ (nL d f)) (iZ (nP d f)) K FUEL (iZ 0) h = K h' ∧ RdAt T h' R (wall d L f w (nL d f)) ∧ offR R h h' := by
  obtain ⟨a, c⟩ := nLP hO f
  refine Exists.elim (loop_inv0 (L := LX2_readLetter_81 T R b (iZ L) (iZ (d 0 3)) (iZ fl) (iZ (nL d f)) (iZ (nP d f)) K) (K := K) (I := fun l g => RdAt T g R (wall d L f w l) ∧ offR R h g) (n := nL d f) (by omega) (fun k l g hl hI => ?_) (fun k g hI => ?_) (h := h) ⟨hS, offR.refl R h⟩) ?_
  · obtain ⟨s1, f1⟩ := hI
    have hk := RdOk_all (f := f) hO (L := L) hW l (by omega)
    obtain ⟨g2, e2, s2, f2⟩ := line_eqG s1 (f1.sh hC hd) hQ hO hd hL hfl hk hl (fun (h59 : zH) => LX2_readLetter_81 T R b (iZ L) (iZ (d 0 3)) (iZ fl) (iZ (nL d f)) (iZ (nP d f)) K k (iZ (l + 1)) h59) (iZ (nL d f))
    refine ⟨g2, ?_, s2, f1.trans f2⟩
    rw [LX2_readLetter_81.eq_2, if_neg (by rw [iZ_le (by omega) (by omega) (by omega) (by omega)]; omega), q0, q1, iZ_add]
    exact e2
  · rw [LX2_readLetter_81.eq_2, if_pos (by exact Int32.le_refl _)]
  · rintro g ⟨e, s1, f1⟩
    exact ⟨g, e, s1, f1⟩
theorem readLetter_eqG (hS : RdAt T h R w) (hI : RdIn w) (hC : ShAt T h b (dput d 0 3 qq)) (hQ : OkD (dput d 0 3 qq)) (hO : OkD d) (hd : R + 6 < b ∨ b + 16 < R) {L : Nat} (hL : L < 2) : ∃ h' w0, FX2_readLetter T R b (iZ L) (iZ (d 0 3)) h = some (iZ (wall d L (d 3 L) w0 (nL d (d 3 L)) 0 0), h') ∧ RdAt T h' R (wall d L (d 3 L) w0 (nL d (d 3 L))) ∧ offR R h h' ∧ RdNew w0 := by
  obtain ⟨w1, w2, w3, w4⟩ := hO.wh
  have hl := hO.lw hL
  unfold lwOk at hl
  obtain ⟨g1, e1, s1, f1⟩ := rd_set hS (k := 0) (by omega) 0
  obtain ⟨g2, e2, s2, f2⟩ := rd_set s1 (k := 1) (by omega) 0
  obtain ⟨g3, e3, s3, f3⟩ := rd_set s2 (k := 5) (by omega) 0
  obtain ⟨g4, t, e4, n4, v4, k4⟩ := fill_ok (s3.2 1 (by omega) (by omega)) (by omega) (-9)
  have f4 : offR R g3 g4 := fun q hq => k4 q (by omega)
  have s4 := s3.row (r := 1) (by omega) (by omega) n4 (fun q hq => k4 q (by omega))
  have f14 := ((f1.trans f2).trans f3).trans f4
  have c4 := f14.sh hC hd
  have hN : RdNew (rowup (dput (dput (dput w 0 0 0) 0 1 0) 0 5 0) 1 t) := ⟨rfl, rfl, rfl, hI, fun j hj => by rw [rowup_self]; exact v4 j hj⟩
  have aw : FX1_at T (b + 5) (iZ L) g4 = some (iZ (d 3 L)) := at_in (sh_n3G c4) (by omega) (by omega) (by omega)
  have run : ∀ fl : Int, (d 3 L = 0 ∧ fl = 1) ∨ (d 3 L ≠ 0 ∧ fl = 0) → ∃ h', LX2_readLetter_81 T R b (iZ L) (iZ (d 0 3)) (iZ fl) (iZ (nL d (d 3 L))) (iZ (nP d (d 3 L))) (fun (h60 : zH) => (zgi h60 R 2 0).bind fun x61 => some (x61, h60)) FUEL (iZ 0) g4 = some (iZ (wall d L (d 3 L) (rowup (dput (dput (dput w 0 0 0) 0 1 0) 0 5 0) 1 t) (nL d (d 3 L)) 0 0), h') ∧ RdAt T h' R (wall d L (d 3 L) (rowup (dput (dput (dput w 0 0 0) 0 1 0) 0 5 0) 1 t) (nL d (d 3 L))) ∧ offR R g4 h' := by
    intro fl hfl
    obtain ⟨g5, e5, s5, f5⟩ := lines_eqG s4 c4 hQ hO hd (L := (L : Int)) (by omega) hfl hN.ok (fun (h60 : zH) => (zgi h60 R 2 0).bind fun x61 => some (x61, h60))
    exact ⟨g5, by rw [e5, rd_g0 s5, zsn], s5, f5⟩
  by_cases c : d 3 L = 0
  · obtain ⟨g5, e5, s5, f5⟩ := run 1 (Or.inl ⟨c, rfl⟩)
    refine ⟨g5, _, ?_, s5, f14.trans f5, hN⟩
    have en : nL d (d 3 L) = (d 0 1).toNat := by unfold nL; rw [if_pos c]
    have ep : nP d (d 3 L) = (d 0 0).toNat := by unfold nP; rw [if_pos c]
    rw [← e5, en, ep, w1, w2]
    unfold FX2_readLetter
    rw [rd_zo hS, zsn]
    simp only [zJn]
    rw [q0, e1, zsn, e2, zsn, e3, zsn, rd_r1 s3, zsn, qm9, e4, zsn, sh_r3 c4, zsn, aw, zsn, if_pos (by rw [c]), q1, if_neg (by decide), sh_g1G c4, zsn, if_neg (by decide), sh_g0G c4, zsn]
  · obtain ⟨g5, e5, s5, f5⟩ := run 0 (Or.inr ⟨c, rfl⟩)
    refine ⟨g5, _, ?_, s5, f14.trans f5, hN⟩
    have en : nL d (d 3 L) = (d 0 0).toNat := by unfold nL; rw [if_neg c]
    have ep : nP d (d 3 L) = (d 0 1).toNat := by unfold nP; rw [if_neg c]
    rw [← e5, en, ep, w1, w2]
    unfold FX2_readLetter
    rw [rd_zo hS, zsn]
    simp only [zJn]
    rw [q0, e1, zsn, e2, zsn, e3, zsn, rd_r1 s3, zsn, qm9, e4, zsn, sh_r3 c4, zsn, aw, zsn, if_neg (by rw [iZ_eq (by omega) (by omega) (by omega) (by omega)]; exact c), if_pos trivial, sh_g0G c4, zsn, if_pos trivial, sh_g1G c4, zsn]
end Gp
