/-! the loops of the reference's laying of words -/
theorem loop_st {ρ σ : Type} {L : Nat → Int32 → σ → Option ρ} {K : σ → Option ρ} {I : Nat → σ → Prop} {n : Nat} (hn : n < 9999) (hs : ∀ (k i : Nat) (s : σ), i < n → I i s → ∃ s', L (k + 1) (iZ i) s = L k (iZ (i + 1)) s' ∧ I (i + 1) s') (he : ∀ (k : Nat) (s : σ), I n s → L (k + 1) (iZ n) s = K s) {s : σ} (h0 : I 0 s) : ∃ s', L FUEL (iZ 0) s = K s' ∧ I n s' := by
  have key : ∀ (k i : Nat) (s : σ), i ≤ n → n - i < k → I i s → ∃ s', L k (iZ i) s = K s' ∧ I n s' := by
    intro k
    induction k with
    | zero => intro i s _ h3; omega
    | succ k ih =>
      intro i s hi hk hI
      by_cases c : i = n
      · subst c
        exact ⟨s, he k s hI, hI⟩
      · obtain ⟨h1, e1, I1⟩ := hs k i s (by omega) hI
        obtain ⟨h2, e2, I2⟩ := ih (i + 1) h1 (by omega) (by omega) I1
        have e : ((i + 1 : Nat) : Int) = (i : Int) + 1 := rfl
        rw [e] at e2
        exact ⟨h2, e1.trans e2, I2⟩
  exact key FUEL 0 s (by omega) (by unfold FUEL; omega) h0
section Lx
variable {T : zT} {k : zH} {m a : Nat} {r v bg sg wo : Nat → Int} {w d : Nat → Nat → Int}
theorem signStep_eq (H : WH T k m a r v bg sg wo) (n1 : a ≠ m) (n2 : a ≠ m + 9) (n3 : a ≠ m + 10) (n4 : a ≠ m + 11) (h15 : 0 ≤ v 15) (h15' : v 15 < 82) (h16 : 0 ≤ v 16) (h16' : v 16 < 81) {n s x y : Int} (hn : n = 0 ∨ n = 1) (x1 : 0 ≤ x) (x2 : x < 9) (y1 : 0 ≤ y) (y2 : y < 9) {ρ : Type} (K : zH → Option ρ) : ∃ k' v', ((FX7_beginWord T m (iZ n) k).bind fun h62 => (zgr h62 m 7 14).bind fun x63 => (zgi h62 m 7 16).bind fun x64 => (zas T h62 x63 x64 (iZ s)).bind fun h65 => (zgi h65 m 7 16).bind fun x66 => (zpv h65 m 7 16 (.int (x66 + 1))).bind fun h67 => (zgr h67 m 7 12).bind fun x68 => (zgi h67 m 7 15).bind fun x69 => (zas T h67 x68 ((9 * iZ y) + iZ x) (x69 - 1)).bind fun h70 => K h70) = K k' ∧ WH T k' m a r v' (if n = 0 then bg else upZ bg (v 15).toNat (v 16)) (upZ sg (v 16).toNat s) (upZ wo (9 * y + x).toNat (v 15 + n - 1)) ∧ v' 15 = v 15 + n ∧ v' 16 = v 16 + 1 ∧ (∀ j, j < 15 → v' j = v j) ∧ offW m k k' := by
  obtain ⟨k1, v1, e1, H1, a15, a16, alo, f1⟩ := beginWord_eq H n1 n3 h15 h15' hn
  obtain ⟨k2, e2, H2, f2⟩ := wh_sg H1 n4 (i := v1 16) (x := s) (by omega) (by omega)
  obtain ⟨k3, e3, H3, f3⟩ := wh_set H2 n1 (i := 16) (by omega) (v1 16 + 1)
  have z15 : zgi k3 m 7 15 = some (iZ (v1 15)) := by have z := mo_g15 H3.1; rw [upZ_ne _ _ (by omega)] at z; exact z
  obtain ⟨k4, e4, H4, f4⟩ := wh_wo H3 n2 (i := 9 * y + x) (x := v1 15 - 1) (by omega) (by omega)
  rw [a16, a15] at H4
  refine ⟨k4, _, ?_, H4, ?_, ?_, fun j hj => ?_, ((f1.trans f2).trans f3).trans f4⟩
  · rw [e1, zsn, mo_r14 H1.1, zsn, mo_g16 H1.1, zsn, e2, zsn, mo_g16 H2.1, zsn, q1, iZ_add, e3, zsn, mo_r12 H3.1, zsn, z15, zsn, q9, iZ_mul, iZ_add, iZ_sub, e4, zsn]
  · rw [upZ_ne _ _ (by omega), a15]
  · exact upZ_self _ _ _
  · rw [upZ_ne _ _ (by omega)]; exact alo j hj
theorem cell7_eq (H : WH T k m a r v bg sg wo) (n1 : a ≠ m) (n2 : a ≠ m + 9) (n3 : a ≠ m + 10) (n4 : a ≠ m + 11) (hP : Pg d r) (hO : OkD d) {L f fl l p go lp : Int} (hW : RdOk w 80) (hK : Lk w v bg sg wo go lp l) (hL : L = 0 ∨ L = 1) (hfl : (f = 0 ∧ fl = 1) ∨ (f ≠ 0 ∧ fl = 0)) (l1 : 0 ≤ l) (l2 : l < nL d f) (p1 : 0 ≤ p) (p2 : p < nP d f) {ρ : Type} (K : Int32 → Int32 → zH → Option ρ) (q : Nat) (z : Int32) : ∃ k' v' bg' sg' wo' go' lp', LX7_layWords_106 T m a (iZ L) (iZ (d 0 3)) (iZ fl) z (iZ (nP d f)) (iZ l) K (q + 1) (iZ go) (iZ lp) (iZ p) k = LX7_layWords_106 T m a (iZ L) (iZ (d 0 3)) (iZ fl) z (iZ (nP d f)) (iZ l) K q (iZ go') (iZ lp') (iZ (p + 1)) k' ∧ WH T k' m a r v' bg' sg' wo' ∧ Lk (wcell d L f w l p) v' bg' sg' wo' go' lp' l ∧ (∀ j, j < 15 → v' j = v j) ∧ offW m k k' := by
  have g := cXY_in (d := d) l1 l2 p1 p2
  have g9 := hO.g9 g
  obtain ⟨nl9, np9⟩ := nLP hO f
  obtain ⟨⟨o1, o2, o3, o4, o5, o6, o7, o8⟩, -⟩ := id hO
  have hs := sAt_in hO (L := L) g
  have hsg := signIn_eq H.2.2.2.2 hP hO g hL
  obtain ⟨⟨a1, a2, a3⟩, -, -, -, -, a8, a9⟩ := id hK
  obtain ⟨b1, b2, b3, b4, b5, b6, b7, b8, b9, b10, b11, b12, b13, b14⟩ := id hW
  have hlp : lp = -9 ∨ (0 ≤ lp ∧ lp < 9) := by
    by_cases c : lp = -9
    · exact Or.inl c
    · exact Or.inr (a9 c).2.2.2.2
  have hnw : nw go lp p (d 0 3) = 0 ∨ nw go lp p (d 0 3) = 1 := by
    unfold nw
    split
    · omega
    · split <;> omega
  have h16 : 0 ≤ v 16 := by
    rcases a3 with c | c
    · omega
    · have : lp = -9 := by
        by_cases c2 : lp = -9
        · exact c2
        · have := (a9 c2).1; omega
      have := (a8 this).1.mp c
      have := b14 this.1
      omega
  have e1 : LX7_layWords_106 T m a (iZ L) (iZ (d 0 3)) (iZ fl) z (iZ (nP d f)) (iZ l) K (q + 1) (iZ go) (iZ lp) (iZ p) k = (if sAt d L (cX f l p) (cY f l p) = -9 then LX7_layWords_106 T m a (iZ L) (iZ (d 0 3)) (iZ fl) z (iZ (nP d f)) (iZ l) K q (iZ go) (iZ lp) (iZ (p + 1)) k else ((FX7_beginWord T m (iZ (nw go lp p (d 0 3))) k).bind fun h62 => (zgr h62 m 7 14).bind fun x63 => (zgi h62 m 7 16).bind fun x64 => (zas T h62 x63 x64 (iZ (sAt d L (cX f l p) (cY f l p)))).bind fun h65 => (zgi h65 m 7 16).bind fun x66 => (zpv h65 m 7 16 (.int (x66 + 1))).bind fun h67 => (zgr h67 m 7 12).bind fun x68 => (zgi h67 m 7 15).bind fun x69 => (zas T h67 x68 ((9 * iZ (cY f l p)) + iZ (cX f l p)) (x69 - 1)).bind fun h70 => LX7_layWords_106 T m a (iZ L) (iZ (d 0 3)) (iZ fl) z (iZ (nP d f)) (iZ l) K q (iZ 0) (iZ p) (iZ (p + 1)) h70)) := by
    rw [LX7_layWords_106.eq_2, if_neg (by rw [iZ_le (by omega) (by omega) (by omega) (by omega)]; omega)]
    rcases hfl with ⟨c, rfl⟩ | ⟨c, rfl⟩
    · have ex : cX f l p = p := if_pos c
      have ey : cY f l p = l := if_pos c
      rw [ex, ey] at hsg hs ⊢
      simp only [zJn, if_neg (show ¬ iZ 1 = (0 : Int32) by decide)]
      rw [cellAt_eq, zsn, hsg, zsn]
      by_cases c1 : sAt d L p l = -9
      · rw [if_pos c1, if_pos (by rw [c1]; rfl), q1, iZ_add]
      · rw [if_neg c1, if_neg (by rw [qm9, iZ_eq (by omega) (by omega) (by omega) (by omega)]; exact c1)]
        unfold nw
        by_cases c2 : lp = -9
        · rw [if_pos c2, if_pos (by rw [c2]; rfl)]
          by_cases c3 : go = 0
          · rw [if_pos (by rw [c3]; rfl), c3, q1, q0, iZ_add]; rfl
          · have c4 : go = 1 := by omega
            rw [if_neg (by rw [c4]; decide), c4, q1, q0, iZ_add]; rfl
        · rw [if_neg c2, if_neg (by rw [qm9, iZ_eq (by omega) (by omega) (by omega) (by omega)]; exact c2)]
          by_cases c3 : p - lp - 1 < d 0 3
          · rw [if_pos c3, q1, iZ_sub, iZ_sub, if_pos (by rw [iZ_lt (by omega) (by omega) (by omega) (by omega)]; exact c3), q0, iZ_add]
          · rw [if_neg c3, q1, iZ_sub, iZ_sub, if_neg (by rw [iZ_lt (by omega) (by omega) (by omega) (by omega)]; exact c3), q0, iZ_add]
    · have ex : cX f l p = l := if_neg c
      have ey : cY f l p = p := if_neg c
      rw [ex, ey] at hsg hs ⊢
      simp only [zJn, if_pos (show iZ 0 = (0 : Int32) from rfl)]
      rw [cellAt_eq, zsn, hsg, zsn]
      by_cases c1 : sAt d L l p = -9
      · rw [if_pos c1, if_pos (by rw [c1]; rfl), q1, iZ_add]
      · rw [if_neg c1, if_neg (by rw [qm9, iZ_eq (by omega) (by omega) (by omega) (by omega)]; exact c1)]
        unfold nw
        by_cases c2 : lp = -9
        · rw [if_pos c2, if_pos (by rw [c2]; rfl)]
          by_cases c3 : go = 0
          · rw [if_pos (by rw [c3]; rfl), c3, q1, q0, iZ_add]; rfl
          · have c4 : go = 1 := by omega
            rw [if_neg (by rw [c4]; decide), c4, q1, q0, iZ_add]; rfl
        · rw [if_neg c2, if_neg (by rw [qm9, iZ_eq (by omega) (by omega) (by omega) (by omega)]; exact c2)]
          by_cases c3 : p - lp - 1 < d 0 3
          · rw [if_pos c3, q1, iZ_sub, iZ_sub, if_pos (by rw [iZ_lt (by omega) (by omega) (by omega) (by omega)]; exact c3), q0, iZ_add]
          · rw [if_neg c3, q1, iZ_sub, iZ_sub, if_neg (by rw [iZ_lt (by omega) (by omega) (by omega) (by omega)]; exact c3), q0, iZ_add]
  rw [e1]
  unfold wcell
  by_cases c : sAt d L (cX f l p) (cY f l p) = -9
  · rw [if_pos c, if_pos c]
    exact ⟨k, v, bg, sg, wo, go, lp, rfl, H, hK, fun _ _ => rfl, offW.refl m k⟩
  · rw [if_neg c, if_neg c]
    obtain ⟨k', v', e2, H2, z15, z16, zlo, f2⟩ := signStep_eq H n1 n2 n3 n4 (by omega) (by omega) h16 (by omega) (s := sAt d L (cX f l p) (cY f l p)) hnw g9.1 g9.2.1 g9.2.2.1 g9.2.2.2 (fun h70 => LX7_layWords_106 T m a (iZ L) (iZ (d 0 3)) (iZ fl) z (iZ (nP d f)) (iZ l) K q (iZ 0) (iZ p) (iZ (p + 1)) h70)
    exact ⟨k', v', _, _, _, 0, p, e2, H2, Lk_step hK hW p1 (by omega) g9.1 g9.2.1 g9.2.2.1 g9.2.2.2 z15 z16, zlo, f2⟩
end Lx
