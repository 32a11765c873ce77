/-! the reference's words with another gap than the page's own -/
section Gq
variable {T : zT} {k : zH} {m a : Nat} {r v bg sg wo : Nat → Int} {w d : Nat → Nat → Int} {qq : Int}
theorem signInG (hA : Arr T k a 739 r) (hP : Pg (dput d 0 3 qq) r) (hQ : OkD (dput d 0 3 qq)) {x y L : Int} (g : inG d x y) (hL : L = 0 ∨ L = 1) : FX7_signIn T a (iZ (cel x y)) (iZ L) k = some (iZ (sAt d L x y)) := signIn_eq hA hP hQ ((inG_gp x y).mpr g) hL
theorem cell7_eqG (H : WH T k m a r v bg sg wo) (n1 : a ≠ m) (n2 : a ≠ m + 9) (n3 : a ≠ m + 10) (n4 : a ≠ m + 11) (hP : Pg (dput d 0 3 qq) r) (hQ : OkD (dput d 0 3 qq)) (hO : OkD d) {L f fl l p go lp : Int} (hW : RdOk w 80) (hK : Lk w v bg sg wo go lp l) (hL : L = 0 ∨ L = 1) (hfl : (f = 0 ∧ fl = 1) ∨ (f ≠ 0 ∧ fl = 0)) (l1 : 0 ≤ l) (l2 : l < nL d f) (p1 : 0 ≤ p) (p2 : p < nP d f) {ρ : Type} (K : Int32 → Int32 → zH → Option ρ) (q : Nat) (z : Int32) : ∃ k' v' bg' sg' wo' go' lp', LX7_layWords_106 T m a (iZ L) (iZ (d 0 3)) (iZ fl) z (iZ (nP d f)) (iZ l) K (q + 1) (iZ go) (iZ lp) (iZ p) k = LX7_layWords_106 T m a (iZ L) (iZ (d 0 3)) (iZ fl) z (iZ (nP d f)) (iZ l) K q (iZ go') (iZ lp') (iZ (p + 1)) k' ∧ WH T k' m a r v' bg' sg' wo' ∧ Lk (wcell d L f w l p) v' bg' sg' wo' go' lp' l ∧ (∀ j, j < 15 → v' j = v j) ∧ offW m k k' := by
  have g := cXY_in (d := d) l1 l2 p1 p2
  have g9 := hO.g9 g
  obtain ⟨nl9, np9⟩ := nLP hO f
  obtain ⟨⟨o1, o2, o3, o4, o5, o6, o7, o8⟩, -⟩ := id hO
  have hs := sAt_in hO (L := L) g
  have hsg := signInG H.2.2.2.2 hP hQ g hL
  obtain ⟨⟨a1, a2, a3⟩, -, -, -, -, a8, a9⟩ := id hK
  obtain ⟨b1, b2, b3, b4, b5, b6, b7, b8, b9, b10, b11, b12, b13, b14⟩ := id hW
  have hlp : lp = -9 ∨ (0 ≤ lp ∧ lp < 9) := by
    by_cases c : lp = -9
    · exact Or.inl c
    · exact Or.inr (a9 c).2.2.2.2
  have hnw : nw go lp p (d 0 3) = 0 ∨ nw go lp p (d 0 3) = 1 := by
    unfold nw
    split
    · omega
    · split <;> omega
  have h16 : 0 ≤ v 16 := by
    rcases a3 with c | c
    · omega
    · have : lp = -9 := by
        by_cases c2 : lp = -9
        · exact c2
        · have := (a9 c2).1; omega
      have := (a8 this).1.mp c
      have := b14 this.1
      omega
  have e1 : LX7_layWords_106 T m a (iZ L) (iZ (d 0 3)) (iZ fl) z (iZ (nP d f)) (iZ l) K (q + 1) (iZ go) (iZ lp) (iZ p) k = (if sAt d L (cX f l p) (cY f l p) = -9 then LX7_layWords_106 T m a (iZ L) (iZ (d 0 3)) (iZ fl) z (iZ (nP d f)) (iZ l) K q (iZ go) (iZ lp) (iZ (p + 1)) k else ((FX7_beginWord T m (iZ (nw go lp p (d 0 3))) k).bind fun h62 => (zgr h62 m 7 14).bind fun x63 => (zgi h62 m 7 16).bind fun x64 => (zas T h62 x63 x64 (iZ (sAt d L (cX f l p) (cY f l p)))).bind fun h65 => (zgi h65 m 7 16).bind fun x66 => (zpv h65 m 7 16 (.int (x66 + 1))).bind fun h67 => (zgr h67 m 7 12).bind fun x68 => (zgi h67 m 7 15).bind fun x69 => (zas T h67 x68 ((9 * iZ (cY f l p)) + iZ (cX f l p)) (x69 - 1)).bind fun h70 => LX7_layWords_106 T m a (iZ L) (iZ (d 0 3)) (iZ fl) z (iZ (nP d f)) (iZ l) K q (iZ 0) (iZ p) (iZ (p + 1)) h70)) := by
    rw [LX7_layWords_106.eq_2, if_neg (by rw [iZ_le (by omega) (by omega) (by omega) (by omega)]; omega)]
    rcases hfl with ⟨c, rfl⟩ | ⟨c, rfl⟩
    · have ex : cX f l p = p := if_pos c
      have ey : cY f l p = l := if_pos c
      rw [ex, ey] at hsg hs ⊢
      simp only [zJn, if_neg (show ¬ iZ 1 = (0 : Int32) by decide)]
      rw [cellAt_eq, zsn, hsg, zsn]
      by_cases c1 : sAt d L p l = -9
      · rw [if_pos c1, if_pos (by rw [c1]; rfl), q1, iZ_add]
      · rw [if_neg c1, if_neg (by rw [qm9, iZ_eq (by omega) (by omega) (by omega) (by omega)]; exact c1)]
        unfold nw
        by_cases c2 : lp = -9
        · rw [if_pos c2, if_pos (by rw [c2]; rfl)]
          by_cases c3 : go = 0
          · rw [if_pos (by rw [c3]; rfl), c3, q1, q0, iZ_add]; rfl
          · have c4 : go = 1 := by omega
            rw [if_neg (by rw [c4]; decide), c4, q1, q0, iZ_add]; rfl
        · rw [if_neg c2, if_neg (by rw [qm9, iZ_eq (by omega) (by omega) (by omega) (by omega)]; exact c2)]
          by_cases c3 : p - lp - 1 < d 0 3
          · rw [if_pos c3, q1, iZ_sub, iZ_sub, if_pos (by rw [iZ_lt (by omega) (by omega) (by omega) (by omega)]; exact c3), q0, iZ_add]
          · rw [if_neg c3, q1, iZ_sub, iZ_sub, if_neg (by rw [iZ_lt (by omega) (by omega) (by omega) (by omega)]; exact c3), q0, iZ_add]
    · have ex : cX f l p = l := if_neg c
      have ey : cY f l p = p := if_neg c
      rw [ex, ey] at hsg hs ⊢
      simp only [zJn, if_pos (show iZ 0 = (0 : Int32) from rfl)]
      rw [cellAt_eq, zsn, hsg, zsn]
      by_cases c1 : sAt d L l p = -9
      · rw [if_pos c1, if_pos (by rw [c1]; rfl), q1, iZ_add]
      · rw [if_neg c1, if_neg (by rw [qm9, iZ_eq (by omega) (by omega) (by omega) (by omega)]; exact c1)]
        unfold nw
        by_cases c2 : lp = -9
        · rw [if_pos c2, if_pos (by rw [c2]; rfl)]
          by_cases c3 : go = 0
          · rw [if_pos (by rw [c3]; rfl), c3, q1, q0, iZ_add]; rfl
          · have c4 : go = 1 := by omega
            rw [if_neg (by rw [c4]; decide), c4, q1, q0, iZ_add]; rfl
        · rw [if_neg c2, if_neg (by rw [qm9, iZ_eq (by omega) (by omega) (by omega) (by omega)]; exact c2)]
          by_cases c3 : p - lp - 1 < d 0 3
          · rw [if_pos c3, q1, iZ_sub, iZ_sub, if_pos (by rw [iZ_lt (by omega) (by omega) (by omega) (by omega)]; exact c3), q0, iZ_add]
          · rw [if_neg c3, q1, iZ_sub, iZ_sub, if_neg (by rw [iZ_lt (by omega) (by omega) (by omega) (by omega)]; exact c3), q0, iZ_add]
  rw [e1]
  unfold wcell
  by_cases c : sAt d L (cX f l p) (cY f l p) = -9
  · rw [if_pos c, if_pos c]
    exact ⟨k, v, bg, sg, wo, go, lp, rfl, H, hK, fun _ _ => rfl, offW.refl m k⟩
  · rw [if_neg c, if_neg c]
    obtain ⟨k', v', e2, H2, z15, z16, zlo, f2⟩ := signStep_eq H n1 n2 n3 n4 (by omega) (by omega) h16 (by omega) (s := sAt d L (cX f l p) (cY f l p)) hnw g9.1 g9.2.1 g9.2.2.1 g9.2.2.2 (fun h70 => LX7_layWords_106 T m a (iZ L) (iZ (d 0 3)) (iZ fl) z (iZ (nP d f)) (iZ l) K q (iZ 0) (iZ p) (iZ (p + 1)) h70)
    exact ⟨k', v', _, _, _, 0, p, e2, H2, Lk_step hK hW p1 (by omega) g9.1 g9.2.1 g9.2.2.1 g9.2.2.2 z15 z16, zlo, f2⟩
theorem line7_eqG (H : WH T k m a r v bg sg wo) (n1 : a ≠ m) (n2 : a ≠ m + 9) (n3 : a ≠ m + 10) (n4 : a ≠ m + 11) (hP : Pg (dput d 0 3 qq) r) (hQ : OkD (dput d 0 3 qq)) (hO : OkD d) {L f fl go : Int} {l : Nat} (hW : RdOk w (9 * l)) (hK : Lk w v bg sg wo go (-9) l) (hL : L = 0 ∨ L = 1) (hfl : (f = 0 ∧ fl = 1) ∨ (f ≠ 0 ∧ fl = 0)) (l2 : l < nL d f) {ρ : Type} (K : Int32 → Int32 → zH → Option ρ) (z : Int32) : ∃ k' v' bg' sg' wo' go' lp', LX7_layWords_106 T m a (iZ L) (iZ (d 0 3)) (iZ fl) z (iZ (nP d f)) (iZ l) K FUEL (iZ go) (iZ (-9)) (iZ 0) k = K (iZ go') (iZ lp') k' ∧ WH T k' m a r v' bg' sg' wo' ∧ Lk (wline d L f l w (nP d f)) v' bg' sg' wo' go' lp' l ∧ (∀ j, j < 15 → v' j = v j) ∧ offW m k k' := by
  obtain ⟨nl9, np9⟩ := nLP hO f
  refine Exists.elim (loop_st (σ := Int32 × Int32 × zH) (L := fun q i s => LX7_layWords_106 T m a (iZ L) (iZ (d 0 3)) (iZ fl) z (iZ (nP d f)) (iZ l) K q s.1 s.2.1 i s.2.2) (K := fun s => K s.1 s.2.1 s.2.2) (I := fun p s => ∃ v' bg' sg' wo' go' lp', s.1 = iZ go' ∧ s.2.1 = iZ lp' ∧ WH T s.2.2 m a r v' bg' sg' wo' ∧ Lk (wline d L f l w p) v' bg' sg' wo' go' lp' l ∧ (∀ j, j < 15 → v' j = v j) ∧ offW m k s.2.2) (n := nP d f) (by omega) (fun q p s hp hI => ?_) (fun q s hI => ?_) (s := (iZ go, iZ (-9), k)) ⟨v, bg, sg, wo, go, -9, rfl, rfl, H, hK, fun _ _ => rfl, offW.refl m k⟩) ?_
  · obtain ⟨v1, bg1, sg1, wo1, go1, lp1, e1, e2, H1, K1, lo1, f1⟩ := hI
    have hk := RdOk_line (f := f) hO (L := L) hW l2 p (by omega)
    obtain ⟨k2, v2, bg2, sg2, wo2, go2, lp2, e3, H2, K2, lo2, f2⟩ := cell7_eqG H1 n1 n2 n3 n4 hP hQ hO (hk.mono (by omega)) K1 hL hfl (p := p) (by omega) (by omega) (by omega) (by omega) K q z
    refine ⟨(iZ go2, iZ lp2, k2), ?_, v2, bg2, sg2, wo2, go2, lp2, rfl, rfl, H2, K2, fun j hj => (lo2 j hj).trans (lo1 j hj), f1.trans f2⟩
    show LX7_layWords_106 T m a (iZ L) (iZ (d 0 3)) (iZ fl) z (iZ (nP d f)) (iZ l) K (q + 1) s.1 s.2.1 (iZ p) s.2.2 = _
    rw [e1, e2, e3]
  · show LX7_layWords_106 T m a (iZ L) (iZ (d 0 3)) (iZ fl) z (iZ (nP d f)) (iZ l) K (q + 1) s.1 s.2.1 (iZ (nP d f)) s.2.2 = _
    rw [LX7_layWords_106.eq_2, if_pos (by exact Int32.le_refl _)]
  · rintro s ⟨e, v1, bg1, sg1, wo1, go1, lp1, e1, e2, H1, K1, lo1, f1⟩
    refine ⟨s.2.2, v1, bg1, sg1, wo1, go1, lp1, ?_, H1, K1, lo1, f1⟩
    rw [← e1, ← e2]
    exact e
theorem lines7_eqG (H : WH T k m a r v bg sg wo) (n1 : a ≠ m) (n2 : a ≠ m + 9) (n3 : a ≠ m + 10) (n4 : a ≠ m + 11) (hP : Pg (dput d 0 3 qq) r) (hQ : OkD (dput d 0 3 qq)) (hO : OkD d) {L f fl : Int} (hW : RdOk w 0) (hK : Lk w v bg sg wo 0 (-9) 0) (hL : L = 0 ∨ L = 1) (hfl : (f = 0 ∧ fl = 1) ∨ (f ≠ 0 ∧ fl = 0)) {ρ : Type} (K : Int32 → zH → Option ρ) : ∃ k' v' bg' sg' wo' go', LX7_layWords_92 T m a (iZ L) (iZ (d 0 3)) (iZ fl) (iZ (nL d f)) (iZ (nP d f)) K FUEL (iZ 0) (iZ 0) k = K (iZ go') k' ∧ WH T k' m a r v' bg' sg' wo' ∧ Lk (wall d L f w (nL d f)) v' bg' sg' wo' go' (-9) (nL d f) ∧ (∀ j, j < 15 → v' j = v j) ∧ offW m k k' := by
  obtain ⟨nl9, np9⟩ := nLP hO f
  refine Exists.elim (loop_st (σ := Int32 × zH) (L := fun q i s => LX7_layWords_92 T m a (iZ L) (iZ (d 0 3)) (iZ fl) (iZ (nL d f)) (iZ (nP d f)) K q s.1 i s.2) (K := fun s => K s.1 s.2) (I := fun l s => ∃ v' bg' sg' wo' go', s.1 = iZ go' ∧ WH T s.2 m a r v' bg' sg' wo' ∧ Lk (wall d L f w l) v' bg' sg' wo' go' (-9) l ∧ (∀ j, j < 15 → v' j = v j) ∧ offW m k s.2) (n := nL d f) (by omega) (fun q l s hl hI => ?_) (fun q s hI => ?_) (s := (iZ 0, k)) ⟨v, bg, sg, wo, 0, rfl, H, hK, fun _ _ => rfl, offW.refl m k⟩) ?_
  · obtain ⟨v1, bg1, sg1, wo1, go1, e1, H1, K1, lo1, f1⟩ := hI
    have hk := RdOk_all (f := f) hO (L := L) hW l (by omega)
    have hk2 := RdOk_line (f := f) hO (L := L) hk hl (nP d f) (by omega)
    have hcur : ∀ (K2 : Int32 → Int32 → zH → Option ρ), ∃ k2 v2 bg2 sg2 wo2 go2 lp2, LX7_layWords_106 T m a (iZ L) (iZ (d 0 3)) (iZ fl) (iZ (nL d f)) (iZ (nP d f)) (iZ l) K2 FUEL (iZ go1) (iZ (-9)) (iZ 0) s.2 = K2 (iZ go2) (iZ lp2) k2 ∧ WH T k2 m a r v2 bg2 sg2 wo2 ∧ Lk (wline d L f l (wall d L f w l) (nP d f)) v2 bg2 sg2 wo2 go2 lp2 l ∧ (∀ j, j < 15 → v2 j = v1 j) ∧ offW m s.2 k2 := fun K2 => line7_eqG H1 n1 n2 n3 n4 hP hQ hO hk K1 hL hfl hl K2 (iZ (nL d f))
    show ∃ s', LX7_layWords_92 T m a (iZ L) (iZ (d 0 3)) (iZ fl) (iZ (nL d f)) (iZ (nP d f)) K (q + 1) s.1 (iZ l) s.2 = _ ∧ _
    rw [e1, LX7_layWords_92.eq_2, if_neg (by rw [iZ_le (by omega) (by omega) (by omega) (by omega)]; omega), qm9, q0]
    obtain ⟨k2, v2, bg2, sg2, wo2, go2, lp2, e2, H2, K2, lo2, f2⟩ := hcur _
    rw [e2]
    simp only [zJn]
    obtain ⟨⟨a1, a2, a3⟩, -, -, -, -, -, a9⟩ := id K2
    have hlp : lp2 = -9 ∨ (0 ≤ lp2 ∧ lp2 < 9) := by
      by_cases c : lp2 = -9
      · exact Or.inl c
      · exact Or.inr (a9 c).2.2.2.2
    by_cases c : lp2 = -9
    · rw [if_pos (by rw [c])]
      refine ⟨(iZ go2, k2), by rw [q1, iZ_add], v2, bg2, sg2, wo2, go2, rfl, H2, ?_, fun j hj => (lo2 j hj).trans (lo1 j hj), f1.trans f2⟩
      rw [c] at K2
      exact Lk_mono K2
    · rw [if_neg (by rw [iZ_eq (by omega) (by omega) (by omega) (by omega)]; exact c)]
      obtain ⟨d1, d2, d3, d4, d5⟩ := Lk_end K2 (hk2.mono (by omega)) c
      have hr := (hk2.mono (m := 81) (by omega)).2.2.2.2.2.1
      have h8 := (hk2.mono (m := 81) (by omega)).2.2.2.2.2.2.2.2.2.2
      have zs : zai T k2 (m + 11) (iZ (v2 16 - 1)) = some (iZ (wline d L f l (wall d L f w l) (nP d f) 0 8)) := by
        rw [zai_Arr H2.2.2.1 (by omega) (by omega) (by omega), d3]
      rw [mo_r14 H2.1, zsn, mo_g16 H2.1, zsn, q1, iZ_sub, zs, zsn]
      by_cases c2 : wline d L f l (wall d L f w l) (nP d f) 0 8 = 26
      · obtain ⟨k3, e3, H3, f3⟩ := wh_set H2 n1 (i := 16) (by omega) (v2 16 - 1)
        rw [if_pos (by rw [c2]; rfl), zsn, iZ_sub, e3, zsn]
        refine ⟨(iZ 1, k3), by rw [iZ_add], _, bg2, sg2, wo2, 1, rfl, H3, d4 c2 _ (upZ_ne _ _ (by omega)) (upZ_self _ _ _), fun j hj => ?_, (f1.trans f2).trans f3⟩
        rw [upZ_ne _ _ (by omega)]
        exact (lo2 j hj).trans (lo1 j hj)
      · rw [if_neg (by rw [q26, iZ_eq (by omega) (by omega) (by omega) (by omega)]; exact c2)]
        exact ⟨(iZ go2, k2), by rw [iZ_add], v2, bg2, sg2, wo2, go2, rfl, H2, d5 c2, fun j hj => (lo2 j hj).trans (lo1 j hj), f1.trans f2⟩
  · show LX7_layWords_92 T m a (iZ L) (iZ (d 0 3)) (iZ fl) (iZ (nL d f)) (iZ (nP d f)) K (q + 1) s.1 (iZ (nL d f)) s.2 = _
    rw [LX7_layWords_92.eq_2, if_pos (by exact Int32.le_refl _)]
  · rintro s ⟨e, v1, bg1, sg1, wo1, go1, e1, H1, K1, lo1, f1⟩
    refine ⟨s.2, v1, bg1, sg1, wo1, go1, ?_, H1, K1, lo1, f1⟩
    rw [← e1]
    exact e
theorem layWords_eqG (H : WH T k m a r v bg sg wo) (n1 : a ≠ m) (n2 : a ≠ m + 9) (n3 : a ≠ m + 10) (n4 : a ≠ m + 11) (hP : Pg (dput d 0 3 qq) r) (hQ : OkD (dput d 0 3 qq)) (hO : OkD d) {L : Nat} (hL : L < 2) (hN : RdNew w) : ∃ k' v' bg' sg' wo', FX7_layWords T m a (iZ L) (iZ (d 0 3)) k = some (iZ (wall d L (d 3 L) w (nL d (d 3 L)) 0 0), k') ∧ WH T k' m a r v' bg' sg' wo' ∧ Wds (wall d L (d 3 L) w (nL d (d 3 L))) v' bg' sg' wo' ∧ (∀ j, j < 15 → v' j = v j) ∧ offW m k k' := by
  obtain ⟨nl9, np9⟩ := nLP hO (d 3 L)
  obtain ⟨w1, w2, w3, w4⟩ := hO.wh
  have hl := hO.lw hL
  unfold lwOk at hl
  have p3 : zai T k a (iZ (4 + 3 * L + 2)) = some (iZ (d 3 L)) := (zai_l H.2.2.2.2 hP.1 hL).2.2
  have hP0 : r (0 : Int).toNat = d 0 0 := hP.1.w
  have hP1 : r (1 : Int).toNat = d 0 1 := hP.1.v
  have e0 : zai T k a (iZ 0) = some (iZ (d 0 0)) := by rw [zai_p H.2.2.2.2 (by omega) (by omega), hP0]
  have e1 : zai T k a (iZ 1) = some (iZ (d 0 1)) := by rw [zai_p H.2.2.2.2 (by omega) (by omega), hP1]
  obtain ⟨k1, s1, H1, f1⟩ := wh_set H n1 (i := 15) (by omega) 0
  obtain ⟨k2, s2, H2, f2⟩ := wh_set H1 n1 (i := 16) (by omega) 0
  have f12 := f1.trans f2
  have hok := RdOk_all (f := d 3 L) hO (L := L) hN.ok (nL d (d 3 L)) (Nat.le_refl _)
  have hWk := hok.mono (m := 81) (by omega)
  have run : ∀ fl : Int, (d 3 L = 0 ∧ fl = 1) ∨ (d 3 L ≠ 0 ∧ fl = 0) → ∃ k' v' bg' sg' wo', LX7_layWords_67 T m a (iZ L) (iZ (d 0 3)) (iZ fl) (iZ (nL d (d 3 L))) (iZ (nP d (d 3 L))) (iZ 0) (fun (h23 : zH) => LX7_layWords_92 T m a (iZ L) (iZ (d 0 3)) (iZ fl) (iZ (nL d (d 3 L))) (iZ (nP d (d 3 L))) (fun (x82 : Int32) (h83 : zH) => zJ (fun (h84 : zH) => (zgr h84 m 7 13).bind fun x86 => (zgi h84 m 7 15).bind fun x87 => (zgi h84 m 7 16).bind fun x88 => (zas T h84 x86 x87 x88).bind fun h89 => (zgi h89 m 7 15).bind fun x90 => some (x90, h89)) (fun J85 => if x82 = iZ 0 then (J85 h83) else ((zgr h83 m 7 14).bind fun x91 => (zgi h83 m 7 16).bind fun x92 => (zas T h83 x91 x92 26).bind fun h93 => (zgi h93 m 7 16).bind fun x94 => (zpv h93 m 7 16 (.int (x94 + 1))).bind fun h95 => J85 h95))) FUEL (iZ 0) (iZ 0) h23) FUEL (iZ 0) k2 = some (iZ (wall d L (d 3 L) w (nL d (d 3 L)) 0 0), k') ∧ WH T k' m a r v' bg' sg' wo' ∧ Wds (wall d L (d 3 L) w (nL d (d 3 L))) v' bg' sg' wo' ∧ (∀ j, j < 15 → v' j = v j) ∧ offW m k2 k' := by
    intro fl hfl
    obtain ⟨k3, wo3, e3, H3, u3, f3⟩ := blank_eq H2 n2 (fun (h23 : zH) => LX7_layWords_92 T m a (iZ L) (iZ (d 0 3)) (iZ fl) (iZ (nL d (d 3 L))) (iZ (nP d (d 3 L))) (fun (x82 : Int32) (h83 : zH) => zJ (fun (h84 : zH) => (zgr h84 m 7 13).bind fun x86 => (zgi h84 m 7 15).bind fun x87 => (zgi h84 m 7 16).bind fun x88 => (zas T h84 x86 x87 x88).bind fun h89 => (zgi h89 m 7 15).bind fun x90 => some (x90, h89)) (fun J85 => if x82 = iZ 0 then (J85 h83) else ((zgr h83 m 7 14).bind fun x91 => (zgi h83 m 7 16).bind fun x92 => (zas T h83 x91 x92 26).bind fun h93 => (zgi h93 m 7 16).bind fun x94 => (zpv h93 m 7 16 (.int (x94 + 1))).bind fun h95 => J85 h95))) FUEL (iZ 0) (iZ 0) h23) (iZ L) (iZ (d 0 3)) (iZ fl) (iZ (nL d (d 3 L))) (iZ (nP d (d 3 L))) (iZ 0)
    have K0 : Lk w (upZ (upZ v 15 0) 16 0) bg sg wo3 0 (-9) 0 := by
      obtain ⟨a, b, c, -, e⟩ := hN
      refine ⟨⟨by rw [a]; rfl, by rw [c]; rfl, Or.inl rfl⟩, fun j hj => by omega, fun j hj => ?_, fun x y xa xb ya yb => ?_, fun z => absurd a z, fun _ => ⟨⟨fun z => by omega, fun z => absurd a z.1⟩, fun z => absurd a z⟩, fun z => absurd rfl z⟩
      · have : upZ (upZ v 15 0) 16 0 16 = 0 := upZ_self _ _ _
        omega
      · rw [u3 _ (by omega), e _ (by omega)]
    obtain ⟨k4, v4, bg4, sg4, wo4, go4, e4, H4, K4, lo4, f4⟩ := lines7_eqG (L := (L : Int)) H3 n1 n2 n3 n4 hP hQ hO hN.ok K0 (by omega) hfl (fun (x82 : Int32) (h83 : zH) => zJ (fun (h84 : zH) => (zgr h84 m 7 13).bind fun x86 => (zgi h84 m 7 15).bind fun x87 => (zgi h84 m 7 16).bind fun x88 => (zas T h84 x86 x87 x88).bind fun h89 => (zgi h89 m 7 15).bind fun x90 => some (x90, h89)) (fun J85 => if x82 = iZ 0 then (J85 h83) else ((zgr h83 m 7 14).bind fun x91 => (zgi h83 m 7 16).bind fun x92 => (zas T h83 x91 x92 26).bind fun h93 => (zgi h93 m 7 16).bind fun x94 => (zpv h93 m 7 16 (.int (x94 + 1))).bind fun h95 => J85 h95)))
    obtain ⟨⟨a1, a2, a3⟩, a4, a5, a6, a7, a8, -⟩ := K4
    obtain ⟨b1, b2, b3, b4, b5, b6, b7, b8, b9, b10, b11, b12, b13, b14⟩ := hWk
    have lo : ∀ j, j < 15 → v4 j = v j := fun j hj => by rw [lo4 j hj, upZ_ne _ _ (by omega), upZ_ne _ _ (by omega)]
    by_cases c : go4 = 0
    · obtain ⟨k5, e5, H5, f5⟩ := wh_bg H4 n3 (i := v4 15) (x := v4 16) (by omega) (by omega)
      refine ⟨k5, v4, _, sg4, wo4, ?_, H5, ⟨a1, by omega, fun j hj => ?_, ?_, fun j hj => a5 j (by omega), a6⟩, lo, (f3.trans f4).trans f5⟩
      · rw [e3, e4]
        simp only [zJn]
        rw [if_pos (by rw [c]), mo_r13 H4.1, zsn, mo_g15 H4.1, zsn, mo_g16 H4.1, zsn, e5, zsn, mo_g15 H5.1, zsn, a1]
      · rw [upZ_ne _ _ (by omega)]; exact a4 j hj
      · rw [a1, upZ_self]; omega
    · have c1 : go4 = 1 := by omega
      obtain ⟨z1, z2⟩ := (a8 rfl).1.mp c1
      have z3 := a7 z1
      have z4 := b14 z1
      obtain ⟨k5, e5, H5, f5⟩ := wh_sg H4 n4 (i := v4 16) (x := 26) (by omega) (by omega)
      obtain ⟨k6, e6, H6, f6⟩ := wh_set H5 n1 (i := 16) (by omega) (v4 16 + 1)
      have g15 : zgi k6 m 7 15 = some (iZ (v4 15)) := by have z := mo_g15 H6.1; rw [upZ_ne _ _ (by omega)] at z; exact z
      have g16 : zgi k6 m 7 16 = some (iZ (v4 16 + 1)) := by have z := mo_g16 H6.1; rw [upZ_self] at z; exact z
      obtain ⟨k7, e7, H7, f7⟩ := wh_bg H6 n3 (i := v4 15) (x := v4 16 + 1) (by omega) (by omega)
      have g15' : zgi k7 m 7 15 = some (iZ (v4 15)) := by have z := mo_g15 H7.1; rw [upZ_ne _ _ (by omega)] at z; exact z
      refine ⟨k7, _, _, _, wo4, ?_, H7, ⟨?_, ?_, fun j hj => ?_, ?_, fun j hj => ?_, a6⟩, fun j hj => ?_, (((f3.trans f4).trans f5).trans f6).trans f7⟩
      · rw [e3, e4]
        simp only [zJn]
        rw [if_neg (by rw [c1]; decide), mo_r14 H4.1, zsn, mo_g16 H4.1, zsn, q26, e5, zsn, mo_g16 H5.1, zsn, q1, iZ_add, e6, zsn, mo_r13 H6.1, zsn, g15, zsn, g16, zsn, e7, zsn, g15', zsn, a1]
      · rw [upZ_ne _ _ (by omega)]; exact a1
      · rw [upZ_self]; omega
      · rw [upZ_ne _ _ (by omega)]; exact a4 j hj
      · rw [a1, upZ_self]; omega
      · by_cases cj : j = (v4 16).toNat
        · rw [upZ_eq _ _ cj, ← z2, ← z3]
          congr 1
          omega
        · rw [upZ_ne _ _ cj]; exact a5 j (by omega)
      · rw [upZ_ne _ _ (by omega)]; exact lo j hj
  by_cases c : d 3 L = 0
  · obtain ⟨k', v', bg', sg', wo', r1, r2, r3, r4, r5⟩ := run 1 (Or.inl ⟨c, rfl⟩)
    have en : nL d (d 3 L) = (d 0 1).toNat := by unfold nL; rw [if_pos c]
    have ep : nP d (d 3 L) = (d 0 0).toNat := by unfold nP; rw [if_pos c]
    refine ⟨k', v', bg', sg', wo', ?_, r2, r3, r4, f12.trans r5⟩
    rw [← r1, en, ep, w1, w2]
    unfold FX7_layWords
    rw [mo_zo H.1, zsn]
    simp only [zJn]
    rw [q4, q3, q2, iZ_mul, iZ_add, iZ_add, p3, zsn, q0, if_pos (by rw [c]), q1, if_neg (by decide), e1, zsn, if_neg (by decide), e0, zsn, s1, zsn, s2, zsn]
  · obtain ⟨k', v', bg', sg', wo', r1, r2, r3, r4, r5⟩ := run 0 (Or.inr ⟨c, rfl⟩)
    have en : nL d (d 3 L) = (d 0 0).toNat := by unfold nL; rw [if_neg c]
    have ep : nP d (d 3 L) = (d 0 1).toNat := by unfold nP; rw [if_neg c]
    refine ⟨k', v', bg', sg', wo', ?_, r2, r3, r4, f12.trans r5⟩
    rw [← r1, en, ep, w1, w2]
    unfold FX7_layWords
    rw [mo_zo H.1, zsn]
    simp only [zJn]
    rw [q4, q3, q2, iZ_mul, iZ_add, iZ_add, p3, zsn, q0, if_neg (by rw [iZ_eq (by omega) (by omega) (by omega) (by omega)]; exact c), if_pos trivial, e0, zsn, if_pos trivial, q1, e1, zsn, s1, zsn, s2, zsn]
end Gq
