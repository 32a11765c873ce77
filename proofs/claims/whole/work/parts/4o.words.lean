/-! lines, begin and end of the reference's laying of words -/
theorem Lk_mono {w : Nat → Nat → Int} {v bg sg wo : Nat → Int} {go l : Int} (h : Lk w v bg sg wo go (-9) l) : Lk w v bg sg wo go (-9) (l + 1) := by
  obtain ⟨a1, a2, a3, a4, a5, a6, a7⟩ := h
  exact ⟨a1, a2, a3, a4, a5, fun z => ⟨(a6 z).1, fun c => by have := (a6 z).2 c; omega⟩, fun z => absurd rfl z⟩
theorem Lk_end {w : Nat → Nat → Int} {v bg sg wo : Nat → Int} {go lp l : Int} (h : Lk w v bg sg wo go lp l) (hW : RdOk w 81) (hl : lp ≠ -9) : v 16 = w 0 5 ∧ 1 ≤ v 16 ∧ sg (v 16 - 1).toNat = w 0 8 ∧ (w 0 8 = 26 → ∀ v', v' 15 = v 15 → v' 16 = v 16 - 1 → Lk w v' bg sg wo 1 (-9) (l + 1)) ∧ (w 0 8 ≠ 26 → Lk w v bg sg wo go (-9) (l + 1)) := by
  obtain ⟨⟨a1, a2, a3⟩, a4, a5, a6, a7, a8, a9⟩ := h
  obtain ⟨c1, c2, c3, c4, c5, c6⟩ := a9 hl
  have h1 := hW.2.2.2.2.2.2.2.2.2.2.2.2.2 c2
  refine ⟨by omega, by omega, ?_, fun e v' e1 e2 => ?_, fun e => ?_⟩
  · rw [a5 _ (by omega), show v 16 - 1 = w 0 5 - 1 by omega]
    exact a7 c2
  · exact ⟨⟨by omega, by omega, Or.inr rfl⟩, a4, fun j hj => a5 j (by omega), a6, a7, fun _ => ⟨⟨fun _ => ⟨c2, e⟩, fun _ => rfl⟩, fun _ => by omega⟩, fun z => absurd rfl z⟩
  · exact ⟨⟨a1, a2, a3⟩, a4, a5, a6, a7, fun _ => ⟨⟨fun z => by omega, fun z => absurd z.2 e⟩, fun _ => by omega⟩, fun z => absurd rfl z⟩
section Ly
variable {T : zT} {k : zH} {m a : Nat} {r v bg sg wo : Nat → Int} {w d : Nat → Nat → Int}
theorem line7_eq (H : WH T k m a r v bg sg wo) (n1 : a ≠ m) (n2 : a ≠ m + 9) (n3 : a ≠ m + 10) (n4 : a ≠ m + 11) (hP : Pg d r) (hO : OkD d) {L f fl go : Int} {l : Nat} (hW : RdOk w (9 * l)) (hK : Lk w v bg sg wo go (-9) l) (hL : L = 0 ∨ L = 1) (hfl : (f = 0 ∧ fl = 1) ∨ (f ≠ 0 ∧ fl = 0)) (l2 : l < nL d f) {ρ : Type} (K : Int32 → Int32 → zH → Option ρ) (z : Int32) : ∃ k' v' bg' sg' wo' go' lp', LX7_layWords_106 T m a (iZ L) (iZ (d 0 3)) (iZ fl) z (iZ (nP d f)) (iZ l) K FUEL (iZ go) (iZ (-9)) (iZ 0) k = K (iZ go') (iZ lp') k' ∧ WH T k' m a r v' bg' sg' wo' ∧ Lk (wline d L f l w (nP d f)) v' bg' sg' wo' go' lp' l ∧ (∀ j, j < 15 → v' j = v j) ∧ offW m k k' := by
  obtain ⟨nl9, np9⟩ := nLP hO f
  refine Exists.elim (loop_st (σ := Int32 × Int32 × zH) (L := fun q i s => LX7_layWords_106 T m a (iZ L) (iZ (d 0 3)) (iZ fl) z (iZ (nP d f)) (iZ l) K q s.1 s.2.1 i s.2.2) (K := fun s => K s.1 s.2.1 s.2.2) (I := fun p s => ∃ v' bg' sg' wo' go' lp', s.1 = iZ go' ∧ s.2.1 = iZ lp' ∧ WH T s.2.2 m a r v' bg' sg' wo' ∧ Lk (wline d L f l w p) v' bg' sg' wo' go' lp' l ∧ (∀ j, j < 15 → v' j = v j) ∧ offW m k s.2.2) (n := nP d f) (by omega) (fun q p s hp hI => ?_) (fun q s hI => ?_) (s := (iZ go, iZ (-9), k)) ⟨v, bg, sg, wo, go, -9, rfl, rfl, H, hK, fun _ _ => rfl, offW.refl m k⟩) ?_
  · obtain ⟨v1, bg1, sg1, wo1, go1, lp1, e1, e2, H1, K1, lo1, f1⟩ := hI
    have hk := RdOk_line (f := f) hO (L := L) hW l2 p (by omega)
    obtain ⟨k2, v2, bg2, sg2, wo2, go2, lp2, e3, H2, K2, lo2, f2⟩ := cell7_eq H1 n1 n2 n3 n4 hP hO (hk.mono (by omega)) K1 hL hfl (p := p) (by omega) (by omega) (by omega) (by omega) K q z
    refine ⟨(iZ go2, iZ lp2, k2), ?_, v2, bg2, sg2, wo2, go2, lp2, rfl, rfl, H2, K2, fun j hj => (lo2 j hj).trans (lo1 j hj), f1.trans f2⟩
    show LX7_layWords_106 T m a (iZ L) (iZ (d 0 3)) (iZ fl) z (iZ (nP d f)) (iZ l) K (q + 1) s.1 s.2.1 (iZ p) s.2.2 = _
    rw [e1, e2, e3]
  · show LX7_layWords_106 T m a (iZ L) (iZ (d 0 3)) (iZ fl) z (iZ (nP d f)) (iZ l) K (q + 1) s.1 s.2.1 (iZ (nP d f)) s.2.2 = _
    rw [LX7_layWords_106.eq_2, if_pos (by exact Int32.le_refl _)]
  · rintro s ⟨e, v1, bg1, sg1, wo1, go1, lp1, e1, e2, H1, K1, lo1, f1⟩
    refine ⟨s.2.2, v1, bg1, sg1, wo1, go1, lp1, ?_, H1, K1, lo1, f1⟩
    rw [← e1, ← e2]
    exact e
theorem lines7_eq (H : WH T k m a r v bg sg wo) (n1 : a ≠ m) (n2 : a ≠ m + 9) (n3 : a ≠ m + 10) (n4 : a ≠ m + 11) (hP : Pg d r) (hO : OkD d) {L f fl : Int} (hW : RdOk w 0) (hK : Lk w v bg sg wo 0 (-9) 0) (hL : L = 0 ∨ L = 1) (hfl : (f = 0 ∧ fl = 1) ∨ (f ≠ 0 ∧ fl = 0)) {ρ : Type} (K : Int32 → zH → Option ρ) : ∃ k' v' bg' sg' wo' go', LX7_layWords_92 T m a (iZ L) (iZ (d 0 3)) (iZ fl) (iZ (nL d f)) (iZ (nP d f)) K FUEL (iZ 0) (iZ 0) k = K (iZ go') k' ∧ WH T k' m a r v' bg' sg' wo' ∧ Lk (wall d L f w (nL d f)) v' bg' sg' wo' go' (-9) (nL d f) ∧ (∀ j, j < 15 → v' j = v j) ∧ offW m k k' := by
  obtain ⟨nl9, np9⟩ := nLP hO f
  refine Exists.elim (loop_st (σ := Int32 × zH) (L := fun q i s => LX7_layWords_92 T m a (iZ L) (iZ (d 0 3)) (iZ fl) (iZ (nL d f)) (iZ (nP d f)) K q s.1 i s.2) (K := fun s => K s.1 s.2) (I := fun l s => ∃ v' bg' sg' wo' go', s.1 = iZ go' ∧ WH T s.2 m a r v' bg' sg' wo' ∧ Lk (wall d L f w l) v' bg' sg' wo' go' (-9) l ∧ (∀ j, j < 15 → v' j = v j) ∧ offW m k s.2) (n := nL d f) (by omega) (fun q l s hl hI => ?_) (fun q s hI => ?_) (s := (iZ 0, k)) ⟨v, bg, sg, wo, 0, rfl, H, hK, fun _ _ => rfl, offW.refl m k⟩) ?_
  · obtain ⟨v1, bg1, sg1, wo1, go1, e1, H1, K1, lo1, f1⟩ := hI
    have hk := RdOk_all (f := f) hO (L := L) hW l (by omega)
    have hk2 := RdOk_line (f := f) hO (L := L) hk hl (nP d f) (by omega)
    have hcur : ∀ (K2 : Int32 → Int32 → zH → Option ρ), ∃ k2 v2 bg2 sg2 wo2 go2 lp2, LX7_layWords_106 T m a (iZ L) (iZ (d 0 3)) (iZ fl) (iZ (nL d f)) (iZ (nP d f)) (iZ l) K2 FUEL (iZ go1) (iZ (-9)) (iZ 0) s.2 = K2 (iZ go2) (iZ lp2) k2 ∧ WH T k2 m a r v2 bg2 sg2 wo2 ∧ Lk (wline d L f l (wall d L f w l) (nP d f)) v2 bg2 sg2 wo2 go2 lp2 l ∧ (∀ j, j < 15 → v2 j = v1 j) ∧ offW m s.2 k2 := fun K2 => line7_eq H1 n1 n2 n3 n4 hP hO hk K1 hL hfl hl K2 (iZ (nL d f))
    show ∃ s', LX7_layWords_92 T m a (iZ L) (iZ (d 0 3)) (iZ fl) (iZ (nL d f)) (iZ (nP d f)) K (q + 1) s.1 (iZ l) s.2 = _ ∧ _
    rw [e1, LX7_layWords_92.eq_2, if_neg (by rw [iZ_le (by omega) (by omega) (by omega) (by omega)]; omega), qm9, q0]
    obtain ⟨k2, v2, bg2, sg2, wo2, go2, lp2, e2, H2, K2, lo2, f2⟩ := hcur _
    rw [e2]
    simp only [zJn]
    obtain ⟨⟨a1, a2, a3⟩, -, -, -, -, -, a9⟩ := id K2
    have hlp : lp2 = -9 ∨ (0 ≤ lp2 ∧ lp2 < 9) := by
      by_cases c : lp2 = -9
      · exact Or.inl c
      · exact Or.inr (a9 c).2.2.2.2
    by_cases c : lp2 = -9
    · rw [if_pos (by rw [c])]
      refine ⟨(iZ go2, k2), by rw [q1, iZ_add], v2, bg2, sg2, wo2, go2, rfl, H2, ?_, fun j hj => (lo2 j hj).trans (lo1 j hj), f1.trans f2⟩
      rw [c] at K2
      exact Lk_mono K2
    · rw [if_neg (by rw [iZ_eq (by omega) (by omega) (by omega) (by omega)]; exact c)]
      obtain ⟨d1, d2, d3, d4, d5⟩ := Lk_end K2 (hk2.mono (by omega)) c
      have hr := (hk2.mono (m := 81) (by omega)).2.2.2.2.2.1
      have h8 := (hk2.mono (m := 81) (by omega)).2.2.2.2.2.2.2.2.2.2
      have zs : zai T k2 (m + 11) (iZ (v2 16 - 1)) = some (iZ (wline d L f l (wall d L f w l) (nP d f) 0 8)) := by
        rw [zai_Arr H2.2.2.1 (by omega) (by omega) (by omega), d3]
      rw [mo_r14 H2.1, zsn, mo_g16 H2.1, zsn, q1, iZ_sub, zs, zsn]
      by_cases c2 : wline d L f l (wall d L f w l) (nP d f) 0 8 = 26
      · obtain ⟨k3, e3, H3, f3⟩ := wh_set H2 n1 (i := 16) (by omega) (v2 16 - 1)
        rw [if_pos (by rw [c2]; rfl), zsn, iZ_sub, e3, zsn]
        refine ⟨(iZ 1, k3), by rw [iZ_add], _, bg2, sg2, wo2, 1, rfl, H3, d4 c2 _ (upZ_ne _ _ (by omega)) (upZ_self _ _ _), fun j hj => ?_, (f1.trans f2).trans f3⟩
        rw [upZ_ne _ _ (by omega)]
        exact (lo2 j hj).trans (lo1 j hj)
      · rw [if_neg (by rw [q26, iZ_eq (by omega) (by omega) (by omega) (by omega)]; exact c2)]
        exact ⟨(iZ go2, k2), by rw [iZ_add], v2, bg2, sg2, wo2, go2, rfl, H2, d5 c2, fun j hj => (lo2 j hj).trans (lo1 j hj), f1.trans f2⟩
  · show LX7_layWords_92 T m a (iZ L) (iZ (d 0 3)) (iZ fl) (iZ (nL d f)) (iZ (nP d f)) K (q + 1) s.1 (iZ (nL d f)) s.2 = _
    rw [LX7_layWords_92.eq_2, if_pos (by exact Int32.le_refl _)]
  · rintro s ⟨e, v1, bg1, sg1, wo1, go1, e1, H1, K1, lo1, f1⟩
    refine ⟨s.2, v1, bg1, sg1, wo1, go1, ?_, H1, K1, lo1, f1⟩
    rw [← e1]
    exact e
end Ly
