/-! the whole Sheet is turned -/
def TurnedD (e d' : Nat → Nat → Int) : Prop := (d' 0 0 = e 0 1 ∧ d' 0 1 = e 0 0 ∧ d' 0 2 = e 0 2 ∧ d' 0 3 = e 0 3) ∧ (∀ k, k < 2 → d' 1 k = e 1 k ∧ d' 2 k = 8 - e 2 k ∧ d' 3 k = 1 - e 3 k) ∧ ∀ x y, inG e x y → DoneC e d' x y
theorem DoneC_row {e dd d' : Nat → Nat → Int} {x y : Int} (hr : ∀ r, 3 < r → d' r = dd r) (h : DoneC e dd x y) : DoneC e d' x y := by
  unfold DoneC at h ⊢
  rw [hr 4 (by omega), hr 5 (by omega), hr 6 (by omega), hr 7 (by omega), hr 8 (by omega)]
  exact h
section Tq
variable {T : zT} {hz h : zH} {b c : Nat} {d e : Nat → Nat → Int}
theorem turnLoop_eq (hS : ShAt T h b d) (hC : ShAt T h c e) (hO : OkD e) (hd : b + 16 < c ∨ c + 16 < b) {ρ : Type} (K : zH → Option ρ) : ∃ h' dd, LX3_turnByQuarter_27 T b c K FUEL (iZ 0) h = K h' ∧ ShAt T h' b dd ∧ ShAt T h' c e ∧ offS b h h' ∧ (∀ r, r < 4 → dd r = d r) ∧ ∀ x y, inG e x y → DoneC e dd x y := by
  obtain ⟨w1, w2, w3, w4⟩ := hO.wh
  refine Exists.elim (loop_inv0 (L := LX3_turnByQuarter_27 T b c K) (K := K) (I := fun i g => ∃ dd, ShAt T g b dd ∧ ShAt T g c e ∧ offS b h g ∧ (∀ r, r < 4 → dd r = d r) ∧ ∀ x y, inG e x y → x < i → DoneC e dd x y) (n := (e 0 0).toNat) (by omega) (fun k i g hi hI => ?_) (fun k g hI => ?_) (h := h) ⟨d, hS, hC, offS.refl b h, fun _ _ => rfl, fun x y g gi => ?_⟩) ?_
  · obtain ⟨d1, s1, c1, f1, a1, a2⟩ := hI
    refine Exists.elim (loop_inv0 (L := LX3_turnByQuarter_37 T b c (iZ i) (fun (h23 : zH) => LX3_turnByQuarter_27 T b c K k (iZ i + 1) h23)) (K := fun h23 => LX3_turnByQuarter_27 T b c K k (iZ i + 1) h23) (I := fun j g => ∃ dd, ShAt T g b dd ∧ ShAt T g c e ∧ offS b h g ∧ (∀ r, r < 4 → dd r = d r) ∧ ∀ x y, inG e x y → (x < i ∨ (x = i ∧ y < j)) → DoneC e dd x y) (n := (e 0 1).toNat) (by omega) (fun k2 j g2 hj hJ => ?_) (fun k2 g2 hJ => ?_) (h := g) ⟨d1, s1, c1, f1, a1, fun x y gg q => ?_⟩) ?_
    · obtain ⟨d2, s2, c2, f2, b1, b2⟩ := hJ
      have gg : inG e i j := ⟨by omega, by omega, by omega, by omega⟩
      obtain ⟨g3, d3, e3, s3, c3, D3, F3, o3⟩ := turnCell_eq s2 c2 hO hd gg
      refine ⟨g3, ?_, d3, s3, c3, f2.trans o3, fun r hr => (F3.1 r hr).trans (b1 r hr), fun x y gx q => ?_⟩
      · rw [LX3_turnByQuarter_37.eq_2]
        simp (disch := omega) only [sh_g1 c2, zsn, iZ_le, if_neg, e3, q1, iZ_add]
      · by_cases cc : x = i ∧ y = j
        · rw [cc.1, cc.2]; exact D3
        · exact DoneC_kept hO gg gx cc F3 (b2 x y gx (by omega))
    · obtain ⟨d2, s2, c2, f2, b1, b2⟩ := hJ
      rw [LX3_turnByQuarter_37.eq_2]
      simp (disch := omega) only [sh_g1 c2, zsn, iZ_le, if_pos]
    · rcases q with q | q
      · exact a2 x y gg q
      · have := gg.2.2.1; omega
    · rintro g3 ⟨e3, d3, s3, c3, f3, b1, b2⟩
      refine ⟨g3, ?_, d3, s3, c3, f3, b1, fun x y gx q => b2 x y gx ?_⟩
      · rw [LX3_turnByQuarter_27.eq_2]
        have z0 := sh_g0 c1
        rw [z0, zsn, if_neg (by rw [iZ_le (by omega) (by omega) (by omega) (by omega)]; omega), q0, e3, q1, iZ_add]
      · have := gx.2.2.2; omega
  · obtain ⟨d1, s1, c1, f1, a1, a2⟩ := hI
    rw [LX3_turnByQuarter_27.eq_2]
    simp (disch := omega) only [sh_g0 c1, zsn, iZ_le, if_pos]
  · have := g.1; omega
  · rintro g ⟨e1, d1, s1, c1, f1, a1, a2⟩
    exact ⟨g, d1, e1, s1, c1, f1, a1, fun x y gx => a2 x y gx (by have := gx.2.1; omega)⟩
def dflip (dd : Nat → Nat → Int) : Nat → Nat → Int := dput (dput (dput (dput dd 2 0 (8 - dd 2 0)) 3 0 (1 - dd 3 0)) 2 1 (8 - dd 2 1)) 3 1 (1 - dd 3 1)
theorem flip_eq (hS : ShAt T h b d) : ∃ h', LX3_turnByQuarter_66 T b (fun (h40 : zH) => some h40) FUEL (iZ 0) h = some h' ∧ ShAt T h' b (dflip d) ∧ offS b h h' := by
  obtain ⟨g1, e1, s1, f1⟩ := sh_put' (v := 8 - d 2 0) hS (r := 2) (i := 0) (by omega) (by omega) (by omega) (by show _ < ((2 : Nat) : Int); omega)
  obtain ⟨g2, e2, s2, f2⟩ := sh_put' (v := 1 - d 3 0) s1 (r := 3) (i := 0) (by omega) (by omega) (by omega) (by show _ < ((2 : Nat) : Int); omega)
  obtain ⟨g3, e3, s3, f3⟩ := sh_put' (v := 8 - d 2 1) s2 (r := 2) (i := 1) (by omega) (by omega) (by omega) (by show _ < ((2 : Nat) : Int); omega)
  obtain ⟨g4, e4, s4, f4⟩ := sh_put' (v := 1 - d 3 1) s3 (r := 3) (i := 1) (by omega) (by omega) (by omega) (by show _ < ((2 : Nat) : Int); omega)
  have a1 : FX1_at T (b + 3) (iZ 0) h = some (iZ (d 2 0)) := at_in (sh_n2 hS) (by omega) (by omega) (by omega)
  have a2 : FX1_at T (b + 5) (iZ 0) g1 = some (iZ (d 3 0)) := at_in (sh_n3 s1) (by omega) (by omega) (by omega)
  have a3 : FX1_at T (b + 3) (iZ 1) g2 = some (iZ (d 2 1)) := at_in (sh_n2 s2) (by omega) (by omega) (by omega)
  have a4 : FX1_at T (b + 5) (iZ 1) g3 = some (iZ (d 3 1)) := at_in (sh_n3 s3) (by omega) (by omega) (by omega)
  refine ⟨g4, ?_, s4, ((f1.trans f2).trans f3).trans f4⟩
  rw [show FUEL = 9997 + 1 + 1 + 1 from rfl, LX3_turnByQuarter_66.eq_2, if_neg (by rw [q2, iZ_le (by omega) (by omega) (by omega) (by omega)]; omega), sh_r2 hS, zsn, zsn, a1, zsn, q8, iZ_sub, e1, zsn, sh_r3 s1, zsn, zsn, a2, zsn, q1, iZ_sub, e2, zsn, iZ_add]
  rw [LX3_turnByQuarter_66.eq_2, show iZ (0 + 1) = iZ 1 from rfl, if_neg (by rw [q2, iZ_le (by omega) (by omega) (by omega) (by omega)]; omega), sh_r2 s2, zsn, zsn, a3, zsn, q8, iZ_sub, e3, zsn, sh_r3 s3, zsn, zsn, a4, zsn, q1, iZ_sub, e4, zsn, iZ_add]
  rw [LX3_turnByQuarter_66.eq_2, show iZ (1 + 1) = iZ 2 from rfl, if_pos (by rw [q2]; exact Int32.le_refl _)]
theorem turnByQuarter_eq (hS : ShAt T h b d) {e0 : Nat → Nat → Int} (hC : ShAt T h c e0) (hO : OkD d) (hd : b + 16 < c ∨ c + 16 < b) : ∃ h' d' e, FX3_turnByQuarter T b c h = some h' ∧ ShAt T h' b d' ∧ ShAt T h' c e ∧ SameD d e ∧ TurnedD e d' ∧ ∀ q, (q < b ∨ b + 16 < q) → (q < c ∨ c + 16 < q) → h' q = h q := by
  obtain ⟨g1, e, e1, c1, hs, f1⟩ := takeFrom_eq hC hS (by omega)
  have s1 := f1.sh hS (by omega)
  have hOe := OkD_same hs hO
  obtain ⟨g2, e2, s2, f2⟩ := putSize_eq s1 (e 0 1) (e 0 0)
  have c2 := f2.sh c1 hd
  obtain ⟨g3, t, e3, n3, v3, k3⟩ := fill_ok (s2.2 4 (by omega) (by omega)) (by decide) 0
  have f3 : offS b g2 g3 := fun q hq => k3 q (by omega)
  have s3 := s2.row (r := 4) (by omega) (by omega) n3 (fun q hq => k3 q (by omega))
  have c3 := f3.sh c2 hd
  obtain ⟨g4, dd, e4, s4, c4, f4, a4, D4⟩ := turnLoop_eq s3 c3 hOe hd (fun (h24 : zH) => LX3_turnByQuarter_66 T b (fun (h40 : zH) => some h40) FUEL (iZ 0) h24)
  obtain ⟨g5, e5, s5, f5⟩ := flip_eq s4
  have c5 := f5.sh c4 hd
  refine ⟨g5, _, e, ?_, s5, c5, hs, ⟨?_, fun k hk => ?_, fun x y g => DoneC_row (fun r hr => ?_) (D4 x y g)⟩, fun q q1 q2 => ?_⟩
  · unfold FX3_turnByQuarter
    rw [sh_zo hS, zsn, e1, zsn, sh_g1 c1, zsn, sh_g0 c1, zsn, e2, zsn, sh_r4 s2, zsn, q0, e3, zsn, e4, e5]
  · have z : dflip dd 0 = dd 0 := by
      unfold dflip
      rw [dput_ne (by omega), dput_ne (by omega), dput_ne (by omega), dput_ne (by omega)]
    rw [z, a4 0 (by omega), hs.1 2 (by omega), hs.1 3 (by omega)]
    exact ⟨rfl, rfl, rfl, rfl⟩
  · obtain ⟨l1, l2, l3⟩ := same_l hs hk
    have z1 : dd 1 = d 1 := a4 1 (by omega)
    have z2 : dd 2 = d 2 := a4 2 (by omega)
    have z3 : dd 3 = d 3 := a4 3 (by omega)
    rw [l1, l2, l3]
    have y1 : dflip dd 1 = dd 1 := by
      unfold dflip
      rw [dput_ne (by omega), dput_ne (by omega), dput_ne (by omega), dput_ne (by omega)]
    have y2 : dflip dd 2 = upZ (upZ (dd 2) 0 (8 - dd 2 0)) 1 (8 - dd 2 1) := by
      unfold dflip
      rw [dput_ne (by omega), dput_self, dput_ne (by omega), dput_self]
    have y3 : dflip dd 3 = upZ (upZ (dd 3) 0 (1 - dd 3 0)) 1 (1 - dd 3 1) := by
      unfold dflip
      rw [dput_self, dput_ne (by omega), dput_self, dput_ne (by omega)]
    rw [y1, y2, y3, z1, z2, z3]
    rcases (show k = 0 ∨ k = 1 by omega) with rfl | rfl
    · rw [upZ_ne _ _ (by omega), upZ_self, upZ_ne _ _ (by omega), upZ_self]
      exact ⟨rfl, rfl, rfl⟩
    · rw [upZ_self, upZ_self]
      exact ⟨rfl, rfl, rfl⟩
  · unfold dflip
    rw [dput_ne (by omega), dput_ne (by omega), dput_ne (by omega), dput_ne (by omega)]
  · exact ((f5 q q1).trans ((f4 q q1).trans ((f3 q q1).trans (f2 q q1)))).trans (f1 q q2)
end Tq
