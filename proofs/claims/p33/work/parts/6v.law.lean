/-! the law: two objects, the same calls -/
def cst (i : Nat) : Nat := 6080 + (if i % 3 = 2 then 29980 else 0) + (if i % 5 = 4 then 29820 else 0) + (if i % 9 = 8 then 5932 else 0)
def csu (c : Nat → Nat) : Nat → Nat → Nat
  | _, 0 => 0
  | i, j + 1 => c i + csu c (i + 1) j
theorem csu_law : csu cst 0 26 ≤ 560000 := by decide +kernel
section Lw1
variable {α γ : Type} {T : zT} {hz h h' : zH} {o p b m C c C1 : Nat} {σ τ υ : Sg} {Q : α → zH → Prop} {q : Nat → Int}
theorem gd_loopc {S : Type} {L : Nat → Int32 → S → Option (α × zH × Nat)} {I : Nat → S → Prop} {n C1 : Nat} {c : Nat → Nat} (hn : n < 9999) (hs : ∀ (k i : Nat) (s : S) (D : Nat), i < n → I i s → (∀ s', I (i + 1) s' → Gd (L k (iZ ((i : Int) + 1)) s') D Q) → Gd (L (k + 1) (iZ i) s) (D + c i) Q) (he : ∀ (k : Nat) (s : S), I n s → Gd (L (k + 1) (iZ n) s) C1 Q) : ∀ s : S, I 0 s → Gd (L FUEL (iZ 0) s) (C1 + csu c 0 n) Q := by
  have key : ∀ (j k i : Nat) (s : S), i + j = n → j < k → I i s → Gd (L k (iZ i) s) (C1 + csu c i j) Q := by
    intro j
    induction j with
    | zero =>
      intro k i s hi hk hI
      obtain ⟨k, rfl⟩ : ∃ q, k = q + 1 := ⟨k - 1, by omega⟩
      rw [show i = n by omega] at hI ⊢
      exact (he k s hI).mono (by omega)
    | succ j ih =>
      intro k i s hi hk hI
      obtain ⟨k, rfl⟩ : ∃ q, k = q + 1 := ⟨k - 1, by omega⟩
      have g := hs k i s (C1 + csu c (i + 1) j) (by omega) hI (fun s' hI' => ih k (i + 1) s' (by omega) (by omega) hI')
      refine g.mono ?_
      show C1 + csu c (i + 1) j + c i ≤ C1 + (c i + csu c (i + 1) j)
      omega
  intro s hI
  exact key n FUEL 0 s (by omega) (by unfold FUEL; omega) hI
theorem Nw.kept (N : Nw T hz h b m q) (f : ∀ q, b ≤ q → q < b + 354 → h' q = h q) : Nw T h' h' b m q := by
  obtain ⟨tx, d, nxt, dd, fl, ds, S, R⟩ := N
  exact ⟨tx, d, nxt, dd, fl, ds, ⟨S.1.kept (fun q hq => f q (by unfold cA at hq; omega) (by unfold cA at hq; omega)), trivial, S.2.2.1.kept (fun q _ q1 q2 => f q q1 q2), offO.refl⟩, R⟩
/-- both objects at once -/
def Pr (T : zT) (o p : Nat) (h : zH) (σ τ : Sg) : Prop := o + 354 ≤ p ∧ Ob T h h o σ ∧ Ob T h h p τ
theorem Pr.onO (P : Pr T o p h σ τ) (O : Ob T h h' o υ) : Pr T o p h' υ τ := ⟨P.1, O.base, P.2.2.kept (fun q q1 q2 => O.off q (Or.inr (by have := P.1; omega)))⟩
theorem Pr.onP (P : Pr T o p h σ τ) (O : Ob T h h' p υ) : Pr T o p h' σ υ := ⟨P.1, P.2.1.kept (fun q q1 q2 => O.off q (Or.inl (by have := P.1; omega))), O.base⟩
theorem gp_o {V : γ} {y : Option (γ × zH × Nat)} {F : γ → zH → Option (α × zH × Nat)} (P : Pr T o p h σ τ) (hx : Gd y c (fun v h' => v = V ∧ Ob T h h' o υ)) (hc : c ≤ C) (kk : ∀ h', Pr T o p h' υ τ → Gd (F V h') (C - c) Q) : Gd (zcl y F) C Q :=
  gd_gd hx hc (fun w h' hq => by
    obtain ⟨e, O⟩ := hq
    subst e
    exact kk h' (P.onO O))
theorem gp_p {V : γ} {y : Option (γ × zH × Nat)} {F : γ → zH → Option (α × zH × Nat)} (P : Pr T o p h σ τ) (hx : Gd y c (fun v h' => v = V ∧ Ob T h h' p υ)) (hc : c ≤ C) (kk : ∀ h', Pr T o p h' σ υ → Gd (F V h') (C - c) Q) : Gd (zcl y F) C Q :=
  gd_gd hx hc (fun w h' hq => by
    obtain ⟨e, O⟩ := hq
    subst e
    exact kk h' (P.onP O))
theorem gn_o {v : Int} {k : Nat} {y : Option (Int32 × zH)} {F : Int32 → zH → Option (α × zH × Nat)} (P : Pr T o p h σ τ) (hx : Rq T h o y v υ) (hc : k ≤ C) (kk : ∀ h', Pr T o p h' υ τ → Gd (F (iZ v) h') (C - k) Q) : Gd (zcn k y F) C Q :=
  gd_cn hx hc (fun h' O => kk h' (P.onO O))
theorem gn_p {v : Int} {k : Nat} {y : Option (Int32 × zH)} {F : Int32 → zH → Option (α × zH × Nat)} (P : Pr T o p h σ τ) (hx : Rq T h p y v υ) (hc : k ≤ C) (kk : ∀ h', Pr T o p h' σ υ → Gd (F (iZ v) h') (C - k) Q) : Gd (zcn k y F) C Q :=
  gd_cn hx hc (fun h' O => kk h' (P.onP O))
theorem mask_in (x : Int32) : ∃ z : Int, 0 ≤ z ∧ z < 2147483648 ∧ x &&& 2147483647 = iZ z := by
  have h1 : (x &&& 2147483647).toBitVec.toNat ≤ 2147483647 := by
    rw [Int32.toBitVec_and, BitVec.toNat_and]
    exact Nat.le_trans Nat.and_le_right (by decide)
  refine ⟨(x &&& 2147483647).toInt, ?_, i_hi _, (iZ_of _).symm⟩
  show 0 ≤ (x &&& 2147483647).toBitVec.toInt
  rw [BitVec.toInt_eq_toNat_of_lt (by omega)]
  exact Int.natCast_nonneg _
theorem cell_at {xv : Nat → Int32} {L : Nat} (hL : L ≤ 260) {i : Int} (i1 : 0 ≤ i) (i2 : i ≤ 60) : ∃ z : Int, 0 ≤ z ∧ z < 2147483648 ∧ FL_cell xv L (iZ i) = some (iZ z) := by
  unfold FL_cell zJ
  by_cases g : Int32.ofNat L ≤ iZ i
  · obtain ⟨z, z1, z2, e⟩ := mask_in ((15518099 * (iZ i + 3)) + 10313)
    exact ⟨z, z1, z2, by
      show (if Int32.ofNat L ≤ iZ i then some (((15518099 * (iZ i + 3)) + 10313) &&& 2147483647) else (zsc xv L (iZ i)).bind fun x3 => some (x3 &&& 2147483647)) = some (iZ z)
      rw [if_pos g, e]⟩
  · rw [iZ_nat] at g
    have g' : ¬ (L : Int) ≤ i := fun w => g ((iZ_le (by omega) (by omega) (by omega) (by omega)).2 w)
    obtain ⟨v, hv, e1⟩ := zsc_at (xv := xv) i1 (show i < L by omega) (show L ≤ 3072 by omega)
    obtain ⟨z, z1, z2, e⟩ := mask_in (iZ v)
    exact ⟨z, z1, z2, by
      show (if Int32.ofNat L ≤ iZ i then some (((15518099 * (iZ i + 3)) + 10313) &&& 2147483647) else (zsc xv L (iZ i)).bind fun x3 => some (x3 &&& 2147483647)) = some (iZ z)
      rw [if_neg (by rw [iZ_nat]; exact g), e1, zsn, e]⟩
theorem r60 : (60 : Int32) = iZ 60 := rfl
set_option maxHeartbeats 4000000 in
set_option maxRecDepth 10000 in
theorem l48 {xv : Nat → Int32} {L : Nat} (hL : L ≤ 260) {K0 : Int32 → zH → Option (α × zH × Nat)} (P : Pr T o p h σ σ) (hK : ∀ h' υ, Pr T o p h' υ υ → Gd (K0 (iZ 1) h') C1 Q) : Gd (LL_law_48 T xv L o p K0 FUEL (iZ 1) (iZ 0) h) (C1 + 560000) Q := by
  refine Gd.mono ?_ (Nat.add_le_add_left csu_law C1)
  refine gd_loopc (L := fun k i (s : Int32 × zH) => LL_law_48 T xv L o p K0 k s.1 i s.2) (I := fun _ (s : Int32 × zH) => s.1 = iZ 1 ∧ ∃ υ, Pr T o p s.2 υ υ) (n := 26) (c := cst) (C1 := C1) (by omega) (fun k i s D hi hI kk => ?_) (fun k s hI => ?_) (iZ 1, h) ⟨rfl, σ, P⟩
  · clear P
    obtain ⟨s1, h⟩ := s
    obtain ⟨e1, σ, P⟩ := hI
    replace e1 : s1 = iZ 1 := e1
    subst e1
    replace P : Pr T o p h σ σ := P
    replace kk : ∀ h' υ, Pr T o p h' υ υ → Gd (LL_law_48 T xv L o p K0 k (iZ 1) (iZ ((i : Int) + 1)) h') D Q := fun h' υ O' => kk (iZ 1, h') ⟨rfl, υ, O'⟩
    show Gd (LL_law_48 T xv L o p K0 (k + 1) (iZ 1) (iZ i) h) (D + cst i) Q
    obtain ⟨x, x1, x2, ex⟩ := cell_at (xv := xv) hL (i := 1 + 2 * (i : Int)) (by omega) (by omega)
    obtain ⟨y, y1, y2, ey⟩ := cell_at (xv := xv) hL (i := 2 + 2 * (i : Int)) (by omega) (by omega)
    have ec : cst i = 6080 + (if i % 3 = 2 then 29980 else 0) + (if i % 5 = 4 then 29820 else 0) + (if i % 9 = 8 then 5932 else 0) := rfl
    generalize hc3 : (if i % 3 = 2 then 29980 else 0) = c3 at ec
    generalize hc5 : (if i % 5 = 4 then 29820 else 0) = c5 at ec
    generalize hc9 : (if i % 9 = 8 then 5932 else 0) = c9 at ec
    rw [ec]
    rw [LL_law_48]
    simp only [q0, q1, q2, q3, q4, q5, q8, q9, q16_, q26, r60]
    refine gd_f (fun w => by have := (iZ_le (by omega) (by omega) (by omega) (by omega)).1 w; omega) ?_
    refine gd_f (by decide) ?_
    refine gd_J (fun J => ∀ h υ, Pr T o p h υ υ → Gd (J (iZ x) (iZ y) (iZ 1) h) (D + c3 + c5 + c9) Q) (fun h υ P => ?_) (fun J13 hJ13 => ?_)
    · refine gd_J (fun J => ∀ h υ, Pr T o p h υ υ → Gd (J (iZ 1) h) (D + c5 + c9) Q) (fun h υ P => ?_) (fun J16 hJ16 => ?_)
      · refine gd_J (fun J => ∀ h υ, Pr T o p h υ υ → Gd (J (iZ 1) h) (D + c9) Q) (fun h υ P => ?_) (fun J19 hJ19 => ?_)
        · refine gd_J (fun J => ∀ h υ, Pr T o p h υ υ → Gd (J (iZ 1) h) D Q) (fun h υ P => ?_) (fun J22 hJ22 => ?_)
          · rw [iZ_add]
            exact kk h υ P
          · refine gd_s (zremI_iZ (a := (i : Int)) (b := 9) (by omega) (by omega) (by omega) (by omega)) ?_
            refine gd_eq (by omega) (by omega) (by omega) (by omega) (fun z => ?_) (fun z => (hJ22 h υ P).mono (by omega))
            rw [if_pos (by omega)] at hc9
            subst hc9
            refine gd_f (by decide) ?_
            refine gd_J (fun J => ∀ h υ, Pr T o p h υ υ → Gd (J (iZ 1) h) D Q) (fun h υ P => hJ22 h υ P) (fun J26 hJ26 => ?_)
            refine gd_J (fun _ => True) trivial (fun J28 _ => ?_)
            have em : iZ 1 + iZ (x % 60) = iZ (((1 + x % 60).toNat : Nat) : Int) := by
              rw [iZ_add]; exact congrArg iZ (by omega)
            refine gd_s (zremI_iZ (a := x) (b := 60) (by omega) (by omega) (by omega) (by omega)) ?_
            rw [em]
            generalize (iZ y).toInt64 * (3434269619 : Int64) - (809 : Int64) = sd
            refine gn_o P (k_simulate P.2.1 sd (m := (1 + x % 60).toNat) (by omega) (by omega)) (by omega) (fun h P => ?_)
            refine gd_s (zremI_iZ (a := x) (b := 60) (by omega) (by omega) (by omega) (by omega)) ?_
            rw [em]
            refine gn_p P (k_simulate P.2.2 sd (m := (1 + x % 60).toNat) (by omega) (by omega)) (by omega) (fun h P => ?_)
            refine gd_t rfl ?_
            refine gp_o P (fl_sum P.2.1) (by omega) (fun h P => ?_)
            refine gp_p P (fl_sum P.2.2) (by omega) (fun h P => ?_)
            exact gd_t (lg_eq0.2 rfl) ((hJ26 h υ P).mono (by omega))
        · refine gd_s (zremI_iZ (a := (i : Int)) (b := 5) (by omega) (by omega) (by omega) (by omega)) ?_
          refine gd_eq (by omega) (by omega) (by omega) (by omega) (fun z => ?_) (fun z => (hJ19 h υ P).mono (by omega))
          rw [if_pos (by omega)] at hc5
          subst hc5
          refine gd_f (by decide) ?_
          refine gd_J (fun J => ∀ h υ, Pr T o p h υ υ → Gd (J (iZ 1) h) (D + c9) Q) (fun h υ P => hJ19 h υ P) (fun J48 hJ48 => ?_)
          refine gd_J (fun _ => True) trivial (fun J50 _ => ?_)
          have ey : y % 2 = (((y % 2).toNat : Nat) : Int) := by omega
          refine gd_s (zremI_iZ (a := y) (b := 2) (by omega) (by omega) (by omega) (by omega)) ?_
          refine gd_s (zdivI_iZ (a := x) (b := 16) (by omega) (by omega) (by omega) (by omega)) ?_
          rw [ey]
          refine gp_o P (fl_best (L := (y % 2).toNat) (by omega) (x := x / 16) (by omega) (by omega) P.2.1) (by omega) (fun h P => ?_)
          refine gd_f (by decide) ?_
          refine gd_s (zremI_iZ (a := y) (b := 2) (by omega) (by omega) (by omega) (by omega)) ?_
          refine gd_s (zdivI_iZ (a := x) (b := 16) (by omega) (by omega) (by omega) (by omega)) ?_
          rw [ey]
          refine gp_p P (fl_best (L := (y % 2).toNat) (by omega) (x := x / 16) (by omega) (by omega) P.2.2) (by omega) (fun h P => ?_)
          refine gd_f (by decide) ?_
          refine gp_o P (fl_turns P.2.1) (by omega) (fun h P => ?_)
          refine gd_f (by decide) ?_
          refine gp_p P (fl_turns P.2.2) (by omega) (fun h P => ?_)
          exact gd_f (by decide) ((hJ48 h _ P).mono (by omega))
      · refine gd_s (zremI_iZ (a := (i : Int)) (b := 3) (by omega) (by omega) (by omega) (by omega)) ?_
        refine gd_eq (by omega) (by omega) (by omega) (by omega) (fun z => ?_) (fun z => (hJ16 h υ P).mono (by omega))
        rw [if_pos (by omega)] at hc3
        subst hc3
        refine gd_f (by decide) ?_
        refine gd_J (fun J => ∀ h υ, Pr T o p h υ υ → Gd (J (iZ 1) h) (D + c5 + c9) Q) (fun h υ P => hJ16 h υ P) (fun J74 hJ74 => ?_)
        refine gd_J (fun _ => True) trivial (fun J76 _ => ?_)
        have ei : (i : Int) % 2 = ((i % 2 : Nat) : Int) := by omega
        refine gp_o P (fl_marks P.2.1) (by omega) (fun h P => ?_)
        refine gd_f (by decide) ?_
        refine gd_s (zremI_iZ (a := (i : Int)) (b := 2) (by omega) (by omega) (by omega) (by omega)) ?_
        rw [ei]
        refine gp_o P (fl_words (L := i % 2) (by omega) P.2.1) (by omega) (fun h P => ?_)
        refine gd_f (by decide) ?_
        refine gd_s (zremI_iZ (a := (i : Int)) (b := 2) (by omega) (by omega) (by omega) (by omega)) ?_
        rw [ei]
        refine gp_p P (fl_reading (L := i % 2) (by omega) P.2.2) (by omega) (fun h P => ?_)
        refine gd_f (by decide) ?_
        refine gp_p P (fl_scripts P.2.2) (by omega) (fun h P => ?_)
        refine gd_f (by decide) ?_
        refine gp_o P (fl_sum P.2.1) (by omega) (fun h P => ?_)
        refine gp_p P (fl_sum P.2.2) (by omega) (fun h P => ?_)
        exact gd_t (lg_eq0.2 rfl) ((hJ74 h _ P).mono (by omega))
    · refine gd_J (fun _ => True) trivial (fun J106 _ => ?_)
      refine gd_s (w := iZ x) (by rw [iZ_mul, iZ_add]; exact ex) ?_
      refine gd_s (w := iZ y) (by rw [iZ_mul, iZ_add]; exact ey) ?_
      refine gp_p P (fl_fails P.2.2 x1 x2) (by omega) (fun h P => ?_)
      refine gd_f (by decide) ?_
      refine gp_o P (fl_act P.2.1 x1 x2 y1 y2) (by omega) (fun h P => ?_)
      refine gp_p P (fl_act P.2.2 x1 x2 y1 y2) (by omega) (fun h P => ?_)
      refine gd_t rfl ?_
      refine gp_o P (fl_sum P.2.1) (by omega) (fun h P => ?_)
      refine gp_p P (fl_sum P.2.2) (by omega) (fun h P => ?_)
      exact gd_t (lg_eq0.2 rfl) ((hJ13 h _ P).mono (by omega))
  · obtain ⟨s1, h⟩ := s
    obtain ⟨e1, υ, P⟩ := hI
    replace e1 : s1 = iZ 1 := e1
    subst e1
    show Gd (LL_law_48 T xv L o p K0 (k + 1) (iZ 1) (iZ 26) h) C1 Q
    rw [LL_law_48]
    exact gd_t (by decide) (hK h υ P)
set_option maxHeartbeats 4000000 in
theorem law_ok {xv : Nat → Int32} {L : Nat} (hL : L ≤ 260) (hp : o + 354 ≤ p) {z : Int} (z1 : 0 ≤ z) (z2 : z < 2147483648) (ez : FL_cell xv L (iZ 0) = some (iZ z)) (N1 : Nw T h h o 0 (tg0 z)) (N2 : Nw T h h p 0 (tg0 z)) : ∃ h' n, FL_law T xv L o p h = some ((), h', n) ∧ n ≤ 599378 := by
  have g : Gd (FL_law T xv L o p h) 560050 (fun _ _ => True) := by
    unfold FL_law
    simp only [q0, q1]
    refine gd_J (fun J => ∀ h υ, Pr T o p h υ υ → Gd (J (iZ 1) h) 560000 (fun _ _ => True)) (fun h υ P => ?_) (fun J3 hJ3 => ?_)
    · exact (l48 hL P (C1 := 0) (fun h υ P => gd_t rfl (gd_ret trivial))).mono (by omega)
    · refine gd_J (fun _ => True) trivial (fun J134 _ => ?_)
      refine gd_s ez ?_
      refine gd_gd (fl_begin z1 z2 N1) (by omega) (fun w h1 hq => ?_)
      obtain ⟨e1, O1⟩ := hq
      subst e1
      refine gd_f (by decide) ?_
      have N3 := N2.kept (h' := h1) (fun q q1 q2 => O1.off q (Or.inr (by omega)))
      refine gd_gd (fl_begin z1 z2 N3) (by omega) (fun w h2 hq => ?_)
      obtain ⟨e2, O2⟩ := hq
      subst e2
      refine gd_f (by decide) ?_
      exact (hJ3 h2 (bg0 z) ⟨hp, O1.kept (fun q q1 q2 => O2.off q (Or.inl (by omega))), O2.base⟩).mono (by omega)
  obtain ⟨v, h', n, e, hn, -⟩ := g
  exact ⟨h', n, e, by omega⟩
end Lw1
