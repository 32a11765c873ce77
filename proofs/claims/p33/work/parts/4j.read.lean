/-! a letter is read: what the class computes -/
theorem zJn {α ρ : Type} (a : α) (f : α → Option ρ) : zJ a f = f a := by rw [zJ]
def sAt (d : Nat → Nat → Int) (L x y : Int) : Int := if own d x y = L then (if 0 < cn d x y then d 5 (pl x y 0) else -9) else if own d x y = -9 then -9 else if 1 < cn d x y then d 5 (pl x y 1) else -9
def cX (f l p : Int) : Int := if f = 0 then p else l
def cY (f l p : Int) : Int := if f = 0 then l else p
def nL (d : Nat → Nat → Int) (f : Int) : Nat := (if f = 0 then d 0 1 else d 0 0).toNat
def nP (d : Nat → Nat → Int) (f : Int) : Nat := (if f = 0 then d 0 0 else d 0 1).toNat
def wcell (d : Nat → Nat → Int) (L f : Int) (w : Nat → Nat → Int) (l p : Int) : Nat → Nat → Int := if sAt d L (cX f l p) (cY f l p) = -9 then w else wst w (9 * cX f l p + cY f l p).toNat l p (d 0 3) (sAt d L (cX f l p) (cY f l p))
def wline (d : Nat → Nat → Int) (L f : Int) (l : Int) (w : Nat → Nat → Int) : Nat → Nat → Nat → Int
  | 0 => w
  | p + 1 => wcell d L f (wline d L f l w p) l p
def wall (d : Nat → Nat → Int) (L f : Int) (w : Nat → Nat → Int) : Nat → Nat → Nat → Int
  | 0 => w
  | l + 1 => wline d L f l (wall d L f w l) (nP d f)
section Rb
variable {T : zT} {hz h : zH} {R b : Nat} {w d : Nat → Nat → Int}
theorem wgo_v {l p g : Int} {j : Nat} (h6 : j ≠ 6) (h7 : j ≠ 7) : wgo w l p g 0 j = wgo1 w l p g 0 j := by
  unfold wgo
  rw [dput_self, upZ_ne _ _ h7, dput_self, upZ_ne _ _ h6]
theorem wgo_hi {l p g : Int} {r : Nat} (hr : r ≠ 0) : wgo w l p g r = wgo1 w l p g r := by
  unfold wgo
  rw [dput_ne hr, dput_ne hr]
/-- which way a sign goes: the hyphen goes, the word goes on, or a word begins -/
theorem wgo1_c {l p g : Int} (hW : RdOk w 80) : (wgo1 w l p g 0 0 = w 0 0 ∨ wgo1 w l p g 0 0 = w 0 0 + 1) ∧ 1 ≤ wgo1 w l p g 0 0 ∧ 0 ≤ wgo1 w l p g 0 5 ∧ wgo1 w l p g 0 5 ≤ w 0 5 ∧ wgo1 w l p g 0 1 = w 0 1 := by
  obtain ⟨b1, b2, b3, b4, b5, b6, b7, b8, b9, b10, b11, b12, b13, b14⟩ := hW
  unfold wgo1
  by_cases c1 : w 0 0 ≠ 0 ∧ l ≠ w 0 6 ∧ w 0 8 = 26
  · rw [if_pos c1]
    have e0 : dput w 0 5 (w 0 5 - 1) 0 0 = w 0 0 := rfl
    have e1 : dput w 0 5 (w 0 5 - 1) 0 1 = w 0 1 := rfl
    have e5 : dput w 0 5 (w 0 5 - 1) 0 5 = w 0 5 - 1 := rfl
    rw [e0, e1, e5]
    omega
  · rw [if_neg c1]
    by_cases c2 : w 0 0 ≠ 0 ∧ l = w 0 6 ∧ p - w 0 7 - 1 < g
    · rw [if_pos c2]
      omega
    · rw [if_neg c2]
      have e0 : dput (dput w 3 (w 0 0).toNat (w 0 5)) 0 0 (w 0 0 + 1) 0 0 = w 0 0 + 1 := rfl
      have e1 : dput (dput w 3 (w 0 0).toNat (w 0 5)) 0 0 (w 0 0 + 1) 0 1 = w 0 1 := rfl
      have e5 : dput (dput w 3 (w 0 0).toNat (w 0 5)) 0 0 (w 0 0 + 1) 0 5 = w 0 5 := rfl
      rw [e0, e1, e5]
      omega
theorem wst_v {l p g s : Int} {c : Nat} : wst w c l p g s 0 0 = wgo1 w l p g 0 0 ∧ wst w c l p g s 0 1 = wgo1 w l p g 0 1 + 1 ∧ wst w c l p g s 0 5 = wgo1 w l p g 0 5 + 1 ∧ wst w c l p g s 0 6 = l ∧ wst w c l p g s 0 7 = p ∧ wst w c l p g s 0 8 = s := ⟨rfl, rfl, rfl, rfl, rfl, rfl⟩
theorem RdOk_st {l p g s : Int} {c : Nat} {n : Int} (hW : RdOk w n) (hn : n ≤ 80) (l1 : 0 ≤ l) (l2 : l < 9) (p1 : 0 ≤ p) (p2 : p < 9) (s1 : 0 ≤ s) (s2 : s ≤ 26) : RdOk (wst w c l p g s) (n + 1) := by
  have hW8 : RdOk w 80 := by
    unfold RdOk at hW ⊢
    omega
  obtain ⟨a1, a2, a3, a4, a5⟩ := wgo1_c (l := l) (p := p) (g := g) hW8
  obtain ⟨v0, v1, v5, v6, v7, v8⟩ := wst_v (w := w) (l := l) (p := p) (g := g) (s := s) (c := c)
  unfold RdOk at hW ⊢
  rw [v0, v1, v5, v6, v7, v8]
  omega
theorem RdOk.mono {n m : Int} (hW : RdOk w n) (h : n ≤ m) : RdOk w m := by
  unfold RdOk at hW ⊢
  omega
theorem sAt_in (hO : OkD d) {L x y : Int} (g : inG d x y) : sAt d L x y = -9 ∨ (0 ≤ sAt d L x y ∧ sAt d L x y ≤ 26) := by
  unfold sAt
  split
  · split
    · next c =>
      have := hO.mk g (i := 0) (by omega) c
      unfold mkOk at this
      omega
    · exact Or.inl rfl
  · split
    · exact Or.inl rfl
    · split
      · next c =>
        have := hO.mk g (i := 1) (by omega) c
        unfold mkOk at this
        omega
      · exact Or.inl rfl
theorem cXY_in {f l p : Int} (l1 : 0 ≤ l) (l2 : l < nL d f) (p1 : 0 ≤ p) (p2 : p < nP d f) : inG d (cX f l p) (cY f l p) := by
  unfold nL at l2
  unfold nP at p2
  unfold cX cY inG
  by_cases c : f = 0
  · rw [if_pos c] at l2 p2
    rw [if_pos c, if_pos c]
    omega
  · rw [if_neg c] at l2 p2
    rw [if_neg c, if_neg c]
    omega
theorem offR.sh {h' : zH} {e : Nat → Nat → Int} {c : Nat} (hf : offR R h h') (hC : ShAt T h c e) (hd : R + 6 < c ∨ c + 16 < R) : ShAt T h' c e := hC.kept (fun q h1 h2 => hf q (by omega))
/-- the work on one sign -/
theorem sign_eq (hS : RdAt T h R w) (hW : RdOk w 80) (hC : ShAt T h b d) (hO : OkD d) (hd : R + 6 < b ∨ b + 16 < R) {x y i l p : Int} (g : inG d x y) (i1 : 0 ≤ i) (i2 : i < 2) (l1 : 0 ≤ l) (l2 : l < 9) (p1 : 0 ≤ p) (p2 : p < 9) {ρ : Type} (K : zH → Option ρ) : ∃ h', ((FX2_goTo T R (iZ l) (iZ p) (iZ (d 0 3)) h).bind fun h43 => (zgr h43 b 3 8).bind fun x44 => (FX6_placeOf T (iZ x) (iZ y) (iZ i) h43).bind fun x46 => (FX1_at T x44 x46 h43).bind fun x48 => (FX2_takeSign T R x48 h43).bind fun h50 => (zgr h50 R 2 2).bind fun x51 => (FX6_cellOf T (iZ x) (iZ y) h50).bind fun x53 => (zgi h50 R 2 0).bind fun x54 => (FX1_put T x51 x53 (x54 - 1) h50).bind fun h56 => K h56) = K h' ∧ RdAt T h' R (wst w (9 * x + y).toNat l p (d 0 3) (d 5 (pl x y i))) ∧ offR R h h' := by
  have g9 := hO.g9 g
  obtain ⟨⟨o1, o2, o3, o4, o5, o6, o7, o8⟩, -⟩ := id hO
  obtain ⟨g1, e1, s1, f1⟩ := goTo_eq hS hW l1 l2 p1 p2 (g := d 0 3) (by omega) (by omega)
  obtain ⟨a1, a2, a3, a4, a5⟩ := wgo1_c (l := l) (p := p) (g := d 0 3) hW
  have h5 : wgo w l p (d 0 3) 0 5 = wgo1 w l p (d 0 3) 0 5 := wgo_v (by omega) (by omega)
  have c1 := f1.sh hC hd
  obtain ⟨g2, e2, s2, f2⟩ := takeSign_eq s1 (s := d 5 (pl x y i)) (by omega) (by have := hW.2.2.2.2.2.1; omega)
  obtain ⟨g3, e3, s3, f3⟩ := rd_put (v := wtk (wgo w l p (d 0 3)) (d 5 (pl x y i)) 0 0 - 1) s2 (r := 1) (i := 9 * x + y) (by omega) (by omega) (by omega) (by omega)
  have a : FX1_at T (b + 9) (iZ (2 * (9 * x + y) + i)) g1 = some (iZ (d 5 (pl x y i))) := at_in (sh_n5 c1) (by omega) (by omega) (by omega)
  exact ⟨g3, by rw [e1, zsn, sh_r5 c1, zsn, placeOf_eq, zsn, a, zsn, e2, zsn, rd_r1 s2, zsn, cellOf_eq, zsn, rd_g0 s2, zsn, q1, iZ_sub, e3, zsn], s3, (f1.trans f2).trans f3⟩
theorem cell_eq (hS : RdAt T h R w) (hW : RdOk w 80) (hC : ShAt T h b d) (hO : OkD d) (hd : R + 6 < b ∨ b + 16 < R) {L f fl l p : Int} (hL : L = 0 ∨ L = 1) (hfl : (f = 0 ∧ fl = 1) ∨ (f ≠ 0 ∧ fl = 0)) (l1 : 0 ≤ l) (l2 : l < nL d f) (p1 : 0 ≤ p) (p2 : p < nP d f) {ρ : Type} (K : zH → Option ρ) (k : Nat) (z : Int32) : ∃ h', LX2_readLetter_91 T R b (iZ L) (iZ (d 0 3)) (iZ fl) z (iZ (nP d f)) (iZ l) K (k + 1) (iZ p) h = LX2_readLetter_91 T R b (iZ L) (iZ (d 0 3)) (iZ fl) z (iZ (nP d f)) (iZ l) K k (iZ (p + 1)) h' ∧ RdAt T h' R (wcell d L f w l p) ∧ offR R h h' := by
  have g := cXY_in (d := d) l1 l2 p1 p2
  have g9 := hO.g9 g
  have hcn := hO.cn g
  have ho := own_in hO g
  obtain ⟨w1, w2, w3, w4⟩ := hO.wh
  have nl9 : nL d f ≤ 9 := by unfold nL; split <;> omega
  have np9 : nP d f ≤ 9 := by unfold nP; split <;> omega
  have e1 : LX2_readLetter_91 T R b (iZ L) (iZ (d 0 3)) (iZ fl) z (iZ (nP d f)) (iZ l) K (k + 1) (iZ p) h = (if iZ (own d (cX f l p) (cY f l p)) = iZ L then (if 0 < cn d (cX f l p) (cY f l p) then ((FX2_goTo T R (iZ l) (iZ p) (iZ (d 0 3)) h).bind fun h43 => (zgr h43 b 3 8).bind fun x44 => (FX6_placeOf T (iZ (cX f l p)) (iZ (cY f l p)) (iZ 0) h43).bind fun x46 => (FX1_at T x44 x46 h43).bind fun x48 => (FX2_takeSign T R x48 h43).bind fun h50 => (zgr h50 R 2 2).bind fun x51 => (FX6_cellOf T (iZ (cX f l p)) (iZ (cY f l p)) h50).bind fun x53 => (zgi h50 R 2 0).bind fun x54 => (FX1_put T x51 x53 (x54 - 1) h50).bind fun h56 => LX2_readLetter_91 T R b (iZ L) (iZ (d 0 3)) (iZ fl) z (iZ (nP d f)) (iZ l) K k (iZ (p + 1)) h56) else LX2_readLetter_91 T R b (iZ L) (iZ (d 0 3)) (iZ fl) z (iZ (nP d f)) (iZ l) K k (iZ (p + 1)) h) else if own d (cX f l p) (cY f l p) = -9 then LX2_readLetter_91 T R b (iZ L) (iZ (d 0 3)) (iZ fl) z (iZ (nP d f)) (iZ l) K k (iZ (p + 1)) h else (if 1 < cn d (cX f l p) (cY f l p) then ((FX2_goTo T R (iZ l) (iZ p) (iZ (d 0 3)) h).bind fun h43 => (zgr h43 b 3 8).bind fun x44 => (FX6_placeOf T (iZ (cX f l p)) (iZ (cY f l p)) (iZ 1) h43).bind fun x46 => (FX1_at T x44 x46 h43).bind fun x48 => (FX2_takeSign T R x48 h43).bind fun h50 => (zgr h50 R 2 2).bind fun x51 => (FX6_cellOf T (iZ (cX f l p)) (iZ (cY f l p)) h50).bind fun x53 => (zgi h50 R 2 0).bind fun x54 => (FX1_put T x51 x53 (x54 - 1) h50).bind fun h56 => LX2_readLetter_91 T R b (iZ L) (iZ (d 0 3)) (iZ fl) z (iZ (nP d f)) (iZ l) K k (iZ (p + 1)) h56) else LX2_readLetter_91 T R b (iZ L) (iZ (d 0 3)) (iZ fl) z (iZ (nP d f)) (iZ l) K k (iZ (p + 1)) h)) := by
    have hown := own_eq hC hO g
    rw [LX2_readLetter_91.eq_2, if_neg (by rw [iZ_le (by omega) (by omega) (by omega) (by omega)]; omega)]
    rcases hfl with ⟨c, rfl⟩ | ⟨c, rfl⟩
    · have ex : cX f l p = p := if_pos c
      have ey : cY f l p = l := if_pos c
      rw [ex, ey] at g ho hcn hown ⊢
      simp only [zJn, if_neg (show ¬ iZ 1 = (0 : Int32) by decide)]
      simp only [hown, zsn]
      by_cases c1 : iZ (own d (p) (l)) = iZ L
      · rw [if_pos c1, if_pos c1]
        have c9 : own d (p) (l) ≠ -9 := by
          rw [iZ_eq (by omega) (by omega) (by omega) (by omega)] at c1
          omega
        rw [if_neg (by rw [qm9, iZ_eq (by omega) (by omega) (by omega) (by omega)]; exact c9)]
        by_cases c2 : 0 < cn d (p) (l)
        · rw [if_pos c2, q0, hasMark_t hC hO g (by omega) c2, zsn, if_neg (by decide), q1, iZ_add]
        · rw [if_neg c2, q0, hasMark_f hC hO (by omega) (by omega) (by omega) (by omega) (by omega) (by omega) (fun z => c2 z.2.2), zsn, if_pos rfl, q1, iZ_add]
      · rw [if_neg c1, if_neg c1]
        by_cases c9 : own d (p) (l) = -9
        · rw [if_pos c9, if_pos (by rw [c9]; rfl), q1, iZ_add]
        · rw [if_neg c9, if_neg (by rw [qm9, iZ_eq (by omega) (by omega) (by omega) (by omega)]; exact c9)]
          by_cases c2 : 1 < cn d (p) (l)
          · rw [if_pos c2, q1, hasMark_t hC hO g (by omega) c2, zsn, q0, if_neg (by decide), iZ_add]
          · rw [if_neg c2, q1, hasMark_f hC hO (by omega) (by omega) (by omega) (by omega) (by omega) (by omega) (fun z => c2 z.2.2), zsn, q0, if_pos rfl, iZ_add]
    · have ex : cX f l p = l := if_neg c
      have ey : cY f l p = p := if_neg c
      rw [ex, ey] at g ho hcn hown ⊢
      simp only [zJn, if_pos (show iZ 0 = (0 : Int32) from rfl)]
      simp only [hown, zsn]
      by_cases c1 : iZ (own d (l) (p)) = iZ L
      · rw [if_pos c1, if_pos c1]
        have c9 : own d (l) (p) ≠ -9 := by
          rw [iZ_eq (by omega) (by omega) (by omega) (by omega)] at c1
          omega
        rw [if_neg (by rw [qm9, iZ_eq (by omega) (by omega) (by omega) (by omega)]; exact c9)]
        by_cases c2 : 0 < cn d (l) (p)
        · rw [if_pos c2, q0, hasMark_t hC hO g (by omega) c2, zsn, if_neg (by decide), q1, iZ_add]
        · rw [if_neg c2, q0, hasMark_f hC hO (by omega) (by omega) (by omega) (by omega) (by omega) (by omega) (fun z => c2 z.2.2), zsn, if_pos rfl, q1, iZ_add]
      · rw [if_neg c1, if_neg c1]
        by_cases c9 : own d (l) (p) = -9
        · rw [if_pos c9, if_pos (by rw [c9]; rfl), q1, iZ_add]
        · rw [if_neg c9, if_neg (by rw [qm9, iZ_eq (by omega) (by omega) (by omega) (by omega)]; exact c9)]
          by_cases c2 : 1 < cn d (l) (p)
          · rw [if_pos c2, q1, hasMark_t hC hO g (by omega) c2, zsn, q0, if_neg (by decide), iZ_add]
          · rw [if_neg c2, q1, hasMark_f hC hO (by omega) (by omega) (by omega) (by omega) (by omega) (by omega) (fun z => c2 z.2.2), zsn, q0, if_pos rfl, iZ_add]
  rw [e1]
  unfold wcell sAt
  by_cases c1 : own d (cX f l p) (cY f l p) = L
  · rw [if_pos (by rw [c1]), if_pos c1]
    by_cases c2 : 0 < cn d (cX f l p) (cY f l p)
    · have hm := (hO.mk g (i := 0) (by omega) c2).1
      rw [if_pos c2, if_pos c2, if_neg (by omega)]
      exact sign_eq hS hW hC hO hd g (by omega) (by omega) l1 (by omega) p1 (by omega) _
    · rw [if_neg c2, if_neg c2, if_pos rfl]
      exact ⟨h, rfl, hS, offR.refl R h⟩
  · rw [if_neg (by rw [iZ_eq (by omega) (by omega) (by omega) (by omega)]; exact c1), if_neg c1]
    by_cases c9 : own d (cX f l p) (cY f l p) = -9
    · rw [if_pos c9, if_pos c9, if_pos rfl]
      exact ⟨h, rfl, hS, offR.refl R h⟩
    · rw [if_neg c9, if_neg c9]
      by_cases c2 : 1 < cn d (cX f l p) (cY f l p)
      · have hm := (hO.mk g (i := 1) (by omega) c2).1
        rw [if_pos c2, if_pos c2, if_neg (by omega)]
        exact sign_eq hS hW hC hO hd g (by omega) (by omega) l1 (by omega) p1 (by omega) _
      · rw [if_neg c2, if_neg c2, if_pos rfl]
        exact ⟨h, rfl, hS, offR.refl R h⟩
end Rb
