/-! the reference's layWords as a whole: the words that the class reads -/
/-- the words that the reference has laid are those of the reading w -/
def Wds (w : Nat → Nat → Int) (v bg sg wo : Nat → Int) : Prop := v 15 = w 0 0 ∧ v 16 = w 0 5 ∧ (∀ j : Nat, (j : Int) < w 0 0 → bg j = w 3 j) ∧ bg (w 0 0).toNat = w 0 5 ∧ (∀ j : Nat, (j : Int) < w 0 5 → sg j = w 2 j) ∧ ∀ x y : Int, 0 ≤ x → x < 9 → 0 ≤ y → y < 9 → wo (9 * y + x).toNat = w 1 (9 * x + y).toNat
section Lz
variable {T : zT} {k : zH} {m a : Nat} {r v bg sg wo : Nat → Int} {w d : Nat → Nat → Int}
theorem blank_eq (H : WH T k m a r v bg sg wo) (n2 : a ≠ m + 9) {ρ : Type} (K : zH → Option ρ) (x1 x2 x3 x4 x5 x6 : Int32) : ∃ k' wo', LX7_layWords_67 T m a x1 x2 x3 x4 x5 x6 K FUEL (iZ 0) k = K k' ∧ WH T k' m a r v bg sg wo' ∧ (∀ j, j < 81 → wo' j = -9) ∧ offW m k k' := by
  refine Exists.elim (loop_inv0 (L := LX7_layWords_67 T m a x1 x2 x3 x4 x5 x6 K) (K := K) (I := fun i g => ∃ wo', WH T g m a r v bg sg wo' ∧ (∀ j, j < i → wo' j = -9) ∧ offW m k g) (n := 81) (by omega) (fun q i g hi hI => ?_) (fun q g hI => ?_) (h := k) ⟨wo, H, fun j hj => by omega, offW.refl m k⟩) ?_
  · obtain ⟨wo1, H1, u1, f1⟩ := hI
    obtain ⟨g2, e2, H2, f2⟩ := wh_wo H1 n2 (i := i) (x := -9) (by omega) (by omega)
    refine ⟨g2, ?_, _, H2, fun j hj => ?_, f1.trans f2⟩
    · rw [LX7_layWords_67.eq_2, if_neg (by rw [q81, iZ_le (by omega) (by omega) (by omega) (by omega)]; omega), mo_r12 H1.1, zsn, qm9, e2, zsn, q1, iZ_add]
    · by_cases c : j = i
      · rw [upZ_eq _ _ (by omega)]
      · rw [upZ_ne _ _ (by omega)]
        exact u1 j (by omega)
  · rw [LX7_layWords_67.eq_2, if_pos (by rw [q81]; exact Int32.le_refl _)]
  · rintro g ⟨e, wo1, H1, u1, f1⟩
    exact ⟨g, wo1, e, H1, u1, f1⟩
theorem layWords_eq (H : WH T k m a r v bg sg wo) (n1 : a ≠ m) (n2 : a ≠ m + 9) (n3 : a ≠ m + 10) (n4 : a ≠ m + 11) (hP : Pg d r) (hO : OkD d) {L : Nat} (hL : L < 2) (hN : RdNew w) : ∃ k' v' bg' sg' wo', FX7_layWords T m a (iZ L) (iZ (d 0 3)) k = some (iZ (wall d L (d 3 L) w (nL d (d 3 L)) 0 0), k') ∧ WH T k' m a r v' bg' sg' wo' ∧ Wds (wall d L (d 3 L) w (nL d (d 3 L))) v' bg' sg' wo' ∧ (∀ j, j < 15 → v' j = v j) ∧ offW m k k' := by
  obtain ⟨nl9, np9⟩ := nLP hO (d 3 L)
  obtain ⟨w1, w2, w3, w4⟩ := hO.wh
  have hl := hO.lw hL
  unfold lwOk at hl
  obtain ⟨p1, p2, p3⟩ := zai_l H.2.2.2.2 hP.1 hL
  have e0 : zai T k a (iZ 0) = some (iZ (d 0 0)) := by rw [zai_p H.2.2.2.2 (by omega) (by omega), ← hP.1.w]; rfl
  have e1 : zai T k a (iZ 1) = some (iZ (d 0 1)) := by rw [zai_p H.2.2.2.2 (by omega) (by omega), ← hP.1.v]; rfl
  obtain ⟨k1, s1, H1, f1⟩ := wh_set H n1 (i := 15) (by omega) 0
  obtain ⟨k2, s2, H2, f2⟩ := wh_set H1 n1 (i := 16) (by omega) 0
  have f12 := f1.trans f2
  have hok := RdOk_all (f := d 3 L) hO (L := L) hN.ok (nL d (d 3 L)) (Nat.le_refl _)
  have hWk := hok.mono (m := 81) (by omega)
  have run : ∀ fl : Int, (d 3 L = 0 ∧ fl = 1) ∨ (d 3 L ≠ 0 ∧ fl = 0) → ∃ k' v' bg' sg' wo', LX7_layWords_67 T m a (iZ L) (iZ (d 0 3)) (iZ fl) (iZ (nL d (d 3 L))) (iZ (nP d (d 3 L))) (iZ 0) (fun (h23 : zH) => LX7_layWords_92 T m a (iZ L) (iZ (d 0 3)) (iZ fl) (iZ (nL d (d 3 L))) (iZ (nP d (d 3 L))) (fun (x82 : Int32) (h83 : zH) => zJ (fun (h84 : zH) => (zgr h84 m 7 13).bind fun x86 => (zgi h84 m 7 15).bind fun x87 => (zgi h84 m 7 16).bind fun x88 => (zas T h84 x86 x87 x88).bind fun h89 => (zgi h89 m 7 15).bind fun x90 => some (x90, h89)) (fun J85 => if x82 = iZ 0 then (J85 h83) else ((zgr h83 m 7 14).bind fun x91 => (zgi h83 m 7 16).bind fun x92 => (zas T h83 x91 x92 26).bind fun h93 => (zgi h93 m 7 16).bind fun x94 => (zpv h93 m 7 16 (.int (x94 + 1))).bind fun h95 => J85 h95))) FUEL (iZ 0) (iZ 0) h23) FUEL (iZ 0) k2 = some (iZ (wall d L (d 3 L) w (nL d (d 3 L)) 0 0), k') ∧ WH T k' m a r v' bg' sg' wo' ∧ Wds (wall d L (d 3 L) w (nL d (d 3 L))) v' bg' sg' wo' ∧ (∀ j, j < 15 → v' j = v j) ∧ offW m k2 k' := by
    intro fl hfl
    obtain ⟨k3, wo3, e3, H3, u3, f3⟩ := blank_eq H2 n2 (fun (h23 : zH) => LX7_layWords_92 T m a (iZ L) (iZ (d 0 3)) (iZ fl) (iZ (nL d (d 3 L))) (iZ (nP d (d 3 L))) (fun (x82 : Int32) (h83 : zH) => zJ (fun (h84 : zH) => (zgr h84 m 7 13).bind fun x86 => (zgi h84 m 7 15).bind fun x87 => (zgi h84 m 7 16).bind fun x88 => (zas T h84 x86 x87 x88).bind fun h89 => (zgi h89 m 7 15).bind fun x90 => some (x90, h89)) (fun J85 => if x82 = iZ 0 then (J85 h83) else ((zgr h83 m 7 14).bind fun x91 => (zgi h83 m 7 16).bind fun x92 => (zas T h83 x91 x92 26).bind fun h93 => (zgi h93 m 7 16).bind fun x94 => (zpv h93 m 7 16 (.int (x94 + 1))).bind fun h95 => J85 h95))) FUEL (iZ 0) (iZ 0) h23) (iZ L) (iZ (d 0 3)) (iZ fl) (iZ (nL d (d 3 L))) (iZ (nP d (d 3 L))) (iZ 0)
    have K0 : Lk w (upZ (upZ v 15 0) 16 0) bg sg wo3 0 (-9) 0 := by
      obtain ⟨a, b, c, -, e⟩ := hN
      refine ⟨⟨by rw [a]; rfl, by rw [c]; rfl, Or.inl rfl⟩, fun j hj => by omega, fun j hj => ?_, fun x y xa xb ya yb => ?_, fun z => absurd a z, fun _ => ⟨⟨fun z => by omega, fun z => absurd a z.1⟩, fun z => absurd a z⟩, fun z => absurd rfl z⟩
      · have : upZ (upZ v 15 0) 16 0 16 = 0 := upZ_self _ _ _
        omega
      · rw [u3 _ (by omega), e _ (by omega)]
    obtain ⟨k4, v4, bg4, sg4, wo4, go4, e4, H4, K4, lo4, f4⟩ := lines7_eq (L := (L : Int)) H3 n1 n2 n3 n4 hP hO hN.ok K0 (by omega) hfl (fun (x82 : Int32) (h83 : zH) => zJ (fun (h84 : zH) => (zgr h84 m 7 13).bind fun x86 => (zgi h84 m 7 15).bind fun x87 => (zgi h84 m 7 16).bind fun x88 => (zas T h84 x86 x87 x88).bind fun h89 => (zgi h89 m 7 15).bind fun x90 => some (x90, h89)) (fun J85 => if x82 = iZ 0 then (J85 h83) else ((zgr h83 m 7 14).bind fun x91 => (zgi h83 m 7 16).bind fun x92 => (zas T h83 x91 x92 26).bind fun h93 => (zgi h93 m 7 16).bind fun x94 => (zpv h93 m 7 16 (.int (x94 + 1))).bind fun h95 => J85 h95)))
    obtain ⟨⟨a1, a2, a3⟩, a4, a5, a6, a7, a8, -⟩ := K4
    obtain ⟨b1, b2, b3, b4, b5, b6, b7, b8, b9, b10, b11, b12, b13, b14⟩ := hWk
    have lo : ∀ j, j < 15 → v4 j = v j := fun j hj => by rw [lo4 j hj, upZ_ne _ _ (by omega), upZ_ne _ _ (by omega)]
    by_cases c : go4 = 0
    · obtain ⟨k5, e5, H5, f5⟩ := wh_bg H4 n3 (i := v4 15) (x := v4 16) (by omega) (by omega)
      refine ⟨k5, v4, _, sg4, wo4, ?_, H5, ⟨a1, by omega, fun j hj => ?_, ?_, fun j hj => a5 j (by omega), a6⟩, lo, (f3.trans f4).trans f5⟩
      · rw [e3, e4]
        simp only [zJn]
        rw [if_pos (by rw [c]), mo_r13 H4.1, zsn, mo_g15 H4.1, zsn, mo_g16 H4.1, zsn, e5, zsn, mo_g15 H5.1, zsn, a1]
      · rw [upZ_ne _ _ (by omega)]; exact a4 j hj
      · rw [a1, upZ_self]; omega
    · have c1 : go4 = 1 := by omega
      obtain ⟨z1, z2⟩ := (a8 rfl).1.mp c1
      have z3 := a7 z1
      have z4 := b14 z1
      obtain ⟨k5, e5, H5, f5⟩ := wh_sg H4 n4 (i := v4 16) (x := 26) (by omega) (by omega)
      obtain ⟨k6, e6, H6, f6⟩ := wh_set H5 n1 (i := 16) (by omega) (v4 16 + 1)
      have g15 : zgi k6 m 7 15 = some (iZ (v4 15)) := by have z := mo_g15 H6.1; rw [upZ_ne _ _ (by omega)] at z; exact z
      have g16 : zgi k6 m 7 16 = some (iZ (v4 16 + 1)) := by have z := mo_g16 H6.1; rw [upZ_self] at z; exact z
      obtain ⟨k7, e7, H7, f7⟩ := wh_bg H6 n3 (i := v4 15) (x := v4 16 + 1) (by omega) (by omega)
      have g15' : zgi k7 m 7 15 = some (iZ (v4 15)) := by have z := mo_g15 H7.1; rw [upZ_ne _ _ (by omega)] at z; exact z
      refine ⟨k7, _, _, _, wo4, ?_, H7, ⟨?_, ?_, fun j hj => ?_, ?_, fun j hj => ?_, a6⟩, fun j hj => ?_, (((f3.trans f4).trans f5).trans f6).trans f7⟩
      · rw [e3, e4]
        simp only [zJn]
        rw [if_neg (by rw [c1]; decide), mo_r14 H4.1, zsn, mo_g16 H4.1, zsn, q26, e5, zsn, mo_g16 H5.1, zsn, q1, iZ_add, e6, zsn, mo_r13 H6.1, zsn, g15, zsn, g16, zsn, e7, zsn, g15', zsn, a1]
      · rw [upZ_ne _ _ (by omega)]; exact a1
      · rw [upZ_self]; omega
      · rw [upZ_ne _ _ (by omega)]; exact a4 j hj
      · rw [a1, upZ_self]; omega
      · by_cases cj : j = (v4 16).toNat
        · rw [upZ_eq _ _ cj, ← z2, ← z3]
          congr 1
          omega
        · rw [upZ_ne _ _ cj]; exact a5 j (by omega)
      · rw [upZ_ne _ _ (by omega)]; exact lo j hj
  by_cases c : d 3 L = 0
  · obtain ⟨k', v', bg', sg', wo', r1, r2, r3, r4, r5⟩ := run 1 (Or.inl ⟨c, rfl⟩)
    have en : nL d (d 3 L) = (d 0 1).toNat := by unfold nL; rw [if_pos c]
    have ep : nP d (d 3 L) = (d 0 0).toNat := by unfold nP; rw [if_pos c]
    refine ⟨k', v', bg', sg', wo', ?_, r2, r3, r4, f12.trans r5⟩
    rw [← r1, en, ep, w1, w2]
    unfold FX7_layWords
    rw [mo_zo H.1, zsn]
    simp only [zJn]
    rw [q4, q3, q2, iZ_mul, iZ_add, iZ_add, p3, zsn, q0, if_pos (by rw [c]), q1, if_neg (by decide), e1, zsn, if_neg (by decide), e0, zsn, s1, zsn, s2, zsn]
  · obtain ⟨k', v', bg', sg', wo', r1, r2, r3, r4, r5⟩ := run 0 (Or.inr ⟨c, rfl⟩)
    have en : nL d (d 3 L) = (d 0 0).toNat := by unfold nL; rw [if_neg c]
    have ep : nP d (d 3 L) = (d 0 1).toNat := by unfold nP; rw [if_neg c]
    refine ⟨k', v', bg', sg', wo', ?_, r2, r3, r4, f12.trans r5⟩
    rw [← r1, en, ep, w1, w2]
    unfold FX7_layWords
    rw [mo_zo H.1, zsn]
    simp only [zJn]
    rw [q4, q3, q2, iZ_mul, iZ_add, iZ_add, p3, zsn, q0, if_neg (by rw [iZ_eq (by omega) (by omega) (by omega) (by omega)]; exact c), if_pos trivial, e0, zsn, if_pos trivial, q1, e1, zsn, s1, zsn, s2, zsn]
end Lz
