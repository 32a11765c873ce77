/-! the law's methods: what they come to, at what count -/
def Gd {α : Type} (X : Option (α × zH × Nat)) (C : Nat) (Q : α → zH → Prop) : Prop := ∃ v h m, X = some (v, h, m) ∧ m ≤ C ∧ Q v h
def Cq (T : zT) (hz : zH) (b : Nat) (X : Option (Int32 × zH × Nat)) (v : Int) (c : Nat) (σ : Sg) : Prop := ∃ h' m, X = some (iZ v, h', m) ∧ m ≤ c ∧ Ob T hz h' b σ
section Gd1
variable {α β : Type} {T : zT} {hz h : zH} {b C c k : Nat} {v : Int} {σ : Sg} {Q : α → zH → Prop} {x : Option (Int32 × zH × Nat)} {x2 : Option (Int32 × zH)} {G : Int32 → zH → Option (α × zH × Nat)}
theorem gd_ret {w : α} (hq : Q w h) : Gd (some (w, h, 0)) C Q := ⟨w, h, 0, rfl, Nat.zero_le _, hq⟩
theorem Gd.mono {X : Option (α × zH × Nat)} {C' : Nat} (g : Gd X C Q) (hC : C ≤ C') : Gd X C' Q := by
  obtain ⟨w, h, m, e, hm, hq⟩ := g
  exact ⟨w, h, m, e, Nat.le_trans hm hC, hq⟩
theorem Gd.imp {X : Option (α × zH × Nat)} {Q' : α → zH → Prop} (g : Gd X C Q) (hq : ∀ w h, Q w h → Q' w h) : Gd X C Q' := by
  obtain ⟨w, h, m, e, hm, q⟩ := g
  exact ⟨w, h, m, e, hm, hq _ _ q⟩
theorem gd_cl (hx : Cq T hz b x v c σ) (hc : c ≤ C) (kk : ∀ h', Ob T hz h' b σ → Gd (G (iZ v) h') (C - c) Q) : Gd (zcl x G) C Q := by
  obtain ⟨h', m, e, hm, O⟩ := hx
  obtain ⟨w, h2, n, e2, hn, hq⟩ := kk h' O
  refine ⟨w, h2, n + m, ?_, by omega, hq⟩
  unfold zcl
  rw [e]
  show (match G (iZ v) h' with | none => none | some (w, g, n) => some (w, g, n + m)) = _
  rw [e2]
theorem gd_cn (hx : Rq T hz b x2 v σ) (hc : k ≤ C) (kk : ∀ h', Ob T hz h' b σ → Gd (G (iZ v) h') (C - k) Q) : Gd (zcn k x2 G) C Q := by
  obtain ⟨h', e, O⟩ := hx
  obtain ⟨w, h2, n, e2, hn, hq⟩ := kk h' O
  refine ⟨w, h2, n + k, ?_, by omega, hq⟩
  unfold zcn
  rw [e]
  show (match G (iZ v) h' with | none => none | some (w, g, n) => some (w, g, n + k)) = _
  rw [e2]
/-- a law's method within another -/
theorem gd_gd {γ : Type} {y : Option (γ × zH × Nat)} {F : γ → zH → Option (α × zH × Nat)} {P : γ → zH → Prop} (hx : Gd y c P) (hc : c ≤ C) (kk : ∀ w h', P w h' → Gd (F w h') (C - c) Q) : Gd (zcl y F) C Q := by
  obtain ⟨w0, h', m, e, hm, O⟩ := hx
  obtain ⟨w, h2, n, e2, hn, hq⟩ := kk w0 h' O
  refine ⟨w, h2, n + m, ?_, by omega, hq⟩
  unfold zcl
  rw [e]
  show (match F w0 h' with | none => none | some (w, g, n) => some (w, g, n + m)) = _
  rw [e2]
theorem gd_b2 {w : Int32} {h' : zH} (hx : x2 = some (w, h')) (kk : Gd (G w h') C Q) : Gd (zb2 x2 G) C Q := by
  rw [hx, zb2n]
  exact kk
theorem gd_t {P : Prop} [Decidable P] {A B : Option (α × zH × Nat)} (hp : P) (g : Gd A C Q) : Gd (if P then A else B) C Q := by
  rw [if_pos hp]; exact g
theorem gd_f {P : Prop} [Decidable P] {A B : Option (α × zH × Nat)} (hp : ¬ P) (g : Gd B C Q) : Gd (if P then A else B) C Q := by
  rw [if_neg hp]; exact g
theorem gd_J {γ : Type} {A : γ} {F : γ → Option (α × zH × Nat)} (P : γ → Prop) (hA : P A) (hF : ∀ J, P J → Gd (F J) C Q) : Gd (zJ A F) C Q := hF A hA
theorem gd_s {γ : Type} {y : Option γ} {w : γ} {F : γ → Option (α × zH × Nat)} (e : y = some w) (g : Gd (F w) C Q) : Gd (y.bind F) C Q := by
  rw [e, zsn]; exact g
/-- a loop with a count: k rounds, each at most c; I holds ahead of round i -/
theorem gd_loop {S : Type} {L : Nat → Int32 → S → Option (α × zH × Nat)} {I : Nat → S → Prop} {n C1 : Nat} (hn : n < 9999) (hs : ∀ (k i : Nat) (s : S) (D : Nat), i < n → I i s → (∀ s', I (i + 1) s' → Gd (L k (iZ ((i + 1 : Nat) : Int)) s') D Q) → Gd (L (k + 1) (iZ i) s) (D + c) Q) (he : ∀ (k : Nat) (s : S), I n s → Gd (L (k + 1) (iZ n) s) C1 Q) : ∀ s : S, I 0 s → Gd (L FUEL (iZ 0) s) (C1 + n * c) Q := by
  have key : ∀ (j k i : Nat) (s : S), i + j = n → j < k → I i s → Gd (L k (iZ i) s) (C1 + j * c) Q := by
    intro j
    induction j with
    | zero =>
      intro k i s hi hk hI
      obtain ⟨k, rfl⟩ : ∃ q, k = q + 1 := ⟨k - 1, by omega⟩
      rw [show i = n by omega] at hI ⊢
      exact (he k s hI).mono (by omega)
    | succ j ih =>
      intro k i s hi hk hI
      obtain ⟨k, rfl⟩ : ∃ q, k = q + 1 := ⟨k - 1, by omega⟩
      have g := hs k i s (C1 + j * c) (by omega) hI (fun s' hI' => ih k (i + 1) s' (by omega) (by omega) hI')
      refine g.mono ?_
      rw [Nat.succ_mul]
      omega
  intro s hI
  exact key n FUEL 0 s (by omega) (by unfold FUEL; omega) hI
end Gd1
theorem r15 : (15 : Int32) = iZ 15 := rfl
theorem r17 : (17 : Int32) = iZ 17 := rfl
theorem r18 : (18 : Int32) = iZ 18 := rfl
theorem r19 : (19 : Int32) = iZ 19 := rfl
section Ca
variable {T : zT} {hz h : zH} {b : Nat} {v : Int} {σ : Sg} {a c d e : Int32}
theorem ca0 (R : Rq T hz b (FL_tryAppend T b a h) v σ) : Cq T hz b (FL_call T b (iZ 0) a c d e h) v 2 σ := by
  obtain ⟨h', e9, O⟩ := R
  refine ⟨h', 0 + 2, ?_, by omega, O⟩
  unfold FL_call
  rw [if_pos (show iZ 0 = (0 : Int32) from rfl)]
  unfold zcn
  rw [e9]
theorem ca1 (R : Rq T hz b (FL_tryLoad T b h) v σ) : Cq T hz b (FL_call T b (iZ 1) a c d e h) v 1 σ := by
  obtain ⟨h', e9, O⟩ := R
  refine ⟨h', 0 + 1, ?_, by omega, O⟩
  unfold FL_call
  rw [if_neg (by decide), if_pos (show iZ 1 = (1 : Int32) from rfl)]
  unfold zcn
  rw [e9]
theorem ca2 (R : Rq T hz b (FL_tryAbout T b a h) v σ) : Cq T hz b (FL_call T b (iZ 2) a c d e h) v 1 σ := by
  obtain ⟨h', e9, O⟩ := R
  refine ⟨h', 0 + 1, ?_, by omega, O⟩
  unfold FL_call
  rw [if_neg (by decide), if_neg (by decide), if_pos (show iZ 2 = (2 : Int32) from rfl)]
  unfold zcn
  rw [e9]
theorem ca3 (R : Rq T hz b (FL_tryLetter T b a c h) v σ) : Cq T hz b (FL_call T b (iZ 3) a c d e h) v 2 σ := by
  obtain ⟨h', e9, O⟩ := R
  refine ⟨h', 0 + 2, ?_, by omega, O⟩
  unfold FL_call
  rw [if_neg (by decide), if_neg (by decide), if_neg (by decide), if_pos (show iZ 3 = (3 : Int32) from rfl)]
  unfold zcn
  rw [e9]
theorem ca4 (R : Rq T hz b (FL_tryMarks T b a c h) v σ) : Cq T hz b (FL_call T b (iZ 4) a c d e h) v 1 σ := by
  obtain ⟨h', e9, O⟩ := R
  refine ⟨h', 0 + 1, ?_, by omega, O⟩
  unfold FL_call
  rw [if_neg (by decide), if_neg (by decide), if_neg (by decide), if_neg (by decide), if_pos (show iZ 4 = (4 : Int32) from rfl)]
  unfold zcn
  rw [e9]
theorem ca5 (R : Rq T hz b (FL_tryMark T b a c d e h) v σ) : Cq T hz b (FL_call T b (iZ 5) a c d e h) v 2 σ := by
  obtain ⟨h', e9, O⟩ := R
  refine ⟨h', 0 + 2, ?_, by omega, O⟩
  unfold FL_call
  rw [if_neg (by decide), if_neg (by decide), if_neg (by decide), if_neg (by decide), if_neg (by decide), if_pos (show iZ 5 = (5 : Int32) from rfl)]
  unfold zcn
  rw [e9]
theorem ca6 (R : Rq T hz b (FL_tryLength T b a c h) v σ) : Cq T hz b (FL_call T b (iZ 6) a c d e h) v 2 σ := by
  obtain ⟨h', e9, O⟩ := R
  refine ⟨h', 0 + 2, ?_, by omega, O⟩
  unfold FL_call
  rw [if_neg (by decide), if_neg (by decide), if_neg (by decide), if_neg (by decide), if_neg (by decide), if_neg (by decide), if_pos (show iZ 6 = (6 : Int32) from rfl)]
  unfold zcn
  rw [e9]
theorem ca7 (R : Rq T hz b (FL_trySign T b a c d h) v σ) : Cq T hz b (FL_call T b (iZ 7) a c d e h) v 3 σ := by
  obtain ⟨h', e9, O⟩ := R
  refine ⟨h', 0 + 3, ?_, by omega, O⟩
  unfold FL_call
  rw [if_neg (by decide), if_neg (by decide), if_neg (by decide), if_neg (by decide), if_neg (by decide), if_neg (by decide), if_neg (by decide), if_pos (show iZ 7 = (7 : Int32) from rfl)]
  unfold zcn
  rw [e9]
theorem ca8 (R : Rq T hz b (FL_tryAt T b a c d h) v σ) : Cq T hz b (FL_call T b (iZ 8) a c d e h) v 2 σ := by
  obtain ⟨h', e9, O⟩ := R
  refine ⟨h', 0 + 2, ?_, by omega, O⟩
  unfold FL_call
  rw [if_neg (by decide), if_neg (by decide), if_neg (by decide), if_neg (by decide), if_neg (by decide), if_neg (by decide), if_neg (by decide), if_neg (by decide), if_pos (show iZ 8 = (8 : Int32) from rfl)]
  unfold zcn
  rw [e9]
theorem ca9 (R : Rq T hz b (FL_tryErase T b a c d h) v σ) : Cq T hz b (FL_call T b (iZ 9) a c d e h) v 1 σ := by
  obtain ⟨h', e9, O⟩ := R
  refine ⟨h', 0 + 1, ?_, by omega, O⟩
  unfold FL_call
  rw [if_neg (by decide), if_neg (by decide), if_neg (by decide), if_neg (by decide), if_neg (by decide), if_neg (by decide), if_neg (by decide), if_neg (by decide), if_neg (by decide), if_pos (show iZ 9 = (9 : Int32) from rfl)]
  unfold zcn
  rw [e9]
theorem ca10 (R : Rq T hz b (FL_tryDecide T b a c d e h) v σ) : Cq T hz b (FL_call T b (iZ 10) a c d e h) v 3 σ := by
  obtain ⟨h', e9, O⟩ := R
  refine ⟨h', 0 + 3, ?_, by omega, O⟩
  unfold FL_call
  rw [if_neg (by decide), if_neg (by decide), if_neg (by decide), if_neg (by decide), if_neg (by decide), if_neg (by decide), if_neg (by decide), if_neg (by decide), if_neg (by decide), if_neg (by decide), if_pos (show iZ 10 = (10 : Int32) from rfl)]
  unfold zcn
  rw [e9]
theorem ca11 (R : Rq T hz b (FL_tryPen T b a c d e h) v σ) : Cq T hz b (FL_call T b (iZ 11) a c d e h) v 4 σ := by
  obtain ⟨h', e9, O⟩ := R
  refine ⟨h', 0 + 4, ?_, by omega, O⟩
  unfold FL_call
  rw [if_neg (by decide), if_neg (by decide), if_neg (by decide), if_neg (by decide), if_neg (by decide), if_neg (by decide), if_neg (by decide), if_neg (by decide), if_neg (by decide), if_neg (by decide), if_neg (by decide), if_pos (show iZ 11 = (11 : Int32) from rfl)]
  unfold zcn
  rw [e9]
theorem ca12 (R : Rq T hz b (FL_tryMargin T b a h) v σ) : Cq T hz b (FL_call T b (iZ 12) a c d e h) v 1 σ := by
  obtain ⟨h', e9, O⟩ := R
  refine ⟨h', 0 + 1, ?_, by omega, O⟩
  unfold FL_call
  rw [if_neg (by decide), if_neg (by decide), if_neg (by decide), if_neg (by decide), if_neg (by decide), if_neg (by decide), if_neg (by decide), if_neg (by decide), if_neg (by decide), if_neg (by decide), if_neg (by decide), if_neg (by decide), if_pos (show iZ 12 = (12 : Int32) from rfl)]
  unfold zcn
  rw [e9]
theorem ca13 (R : Rq T hz b (FL_tryGap T b a h) v σ) : Cq T hz b (FL_call T b (iZ 13) a c d e h) v 1 σ := by
  obtain ⟨h', e9, O⟩ := R
  refine ⟨h', 0 + 1, ?_, by omega, O⟩
  unfold FL_call
  rw [if_neg (by decide), if_neg (by decide), if_neg (by decide), if_neg (by decide), if_neg (by decide), if_neg (by decide), if_neg (by decide), if_neg (by decide), if_neg (by decide), if_neg (by decide), if_neg (by decide), if_neg (by decide), if_neg (by decide), if_pos (show iZ 13 = (13 : Int32) from rfl)]
  unfold zcn
  rw [e9]
theorem ca14 (R : Rq T hz b (FL_tryUndo T b h) v σ) : Cq T hz b (FL_call T b (iZ 14) a c d e h) v 1 σ := by
  obtain ⟨h', e9, O⟩ := R
  refine ⟨h', 0 + 1, ?_, by omega, O⟩
  unfold FL_call
  rw [if_neg (by decide), if_neg (by decide), if_neg (by decide), if_neg (by decide), if_neg (by decide), if_neg (by decide), if_neg (by decide), if_neg (by decide), if_neg (by decide), if_neg (by decide), if_neg (by decide), if_neg (by decide), if_neg (by decide), if_neg (by decide), if_pos (show iZ 14 = (14 : Int32) from rfl)]
  unfold zcn
  rw [e9]
theorem ca15 (R : Rq T hz b (FL_tryCount T b a c h) v σ) : Cq T hz b (FL_call T b (iZ 15) a c d e h) v 2 σ := by
  obtain ⟨h', e9, O⟩ := R
  refine ⟨h', 0 + 2, ?_, by omega, O⟩
  unfold FL_call
  rw [if_neg (by decide), if_neg (by decide), if_neg (by decide), if_neg (by decide), if_neg (by decide), if_neg (by decide), if_neg (by decide), if_neg (by decide), if_neg (by decide), if_neg (by decide), if_neg (by decide), if_neg (by decide), if_neg (by decide), if_neg (by decide), if_neg (by decide), if_pos (show iZ 15 = (15 : Int32) from rfl)]
  unfold zcn
  rw [e9]
theorem ca16 (R : Rq T hz b (FL_tryBest T b a h) v σ) : Cq T hz b (FL_call T b (iZ 16) a c d e h) v 1 σ := by
  obtain ⟨h', e9, O⟩ := R
  refine ⟨h', 0 + 1, ?_, by omega, O⟩
  unfold FL_call
  rw [if_neg (by decide), if_neg (by decide), if_neg (by decide), if_neg (by decide), if_neg (by decide), if_neg (by decide), if_neg (by decide), if_neg (by decide), if_neg (by decide), if_neg (by decide), if_neg (by decide), if_neg (by decide), if_neg (by decide), if_neg (by decide), if_neg (by decide), if_neg (by decide), if_pos (show iZ 16 = (16 : Int32) from rfl)]
  unfold zcn
  rw [e9]
theorem ca17 (R : Rq T hz b (FL_tryClears T b a h) v σ) : Cq T hz b (FL_call T b (iZ 17) a c d e h) v 1 σ := by
  obtain ⟨h', e9, O⟩ := R
  refine ⟨h', 0 + 1, ?_, by omega, O⟩
  unfold FL_call
  rw [if_neg (by decide), if_neg (by decide), if_neg (by decide), if_neg (by decide), if_neg (by decide), if_neg (by decide), if_neg (by decide), if_neg (by decide), if_neg (by decide), if_neg (by decide), if_neg (by decide), if_neg (by decide), if_neg (by decide), if_neg (by decide), if_neg (by decide), if_neg (by decide), if_neg (by decide), if_pos (show iZ 17 = (17 : Int32) from rfl)]
  unfold zcn
  rw [e9]
theorem ca18 (R : Rq T hz b (FL_tryWith T b a c h) v σ) : Cq T hz b (FL_call T b (iZ 18) a c d e h) v 2 σ := by
  obtain ⟨h', e9, O⟩ := R
  refine ⟨h', 0 + 2, ?_, by omega, O⟩
  unfold FL_call
  rw [if_neg (by decide), if_neg (by decide), if_neg (by decide), if_neg (by decide), if_neg (by decide), if_neg (by decide), if_neg (by decide), if_neg (by decide), if_neg (by decide), if_neg (by decide), if_neg (by decide), if_neg (by decide), if_neg (by decide), if_neg (by decide), if_neg (by decide), if_neg (by decide), if_neg (by decide), if_neg (by decide), if_pos (show iZ 18 = (18 : Int32) from rfl)]
  unfold zcn
  rw [e9]
theorem ca19 (R : Rq T hz b (FL_trySave T b a h) v σ) : Cq T hz b (FL_call T b (iZ 19) a c d e h) v 1 σ := by
  obtain ⟨h', e9, O⟩ := R
  refine ⟨h', 0 + 1, ?_, by omega, O⟩
  unfold FL_call
  rw [if_neg (by decide), if_neg (by decide), if_neg (by decide), if_neg (by decide), if_neg (by decide), if_neg (by decide), if_neg (by decide), if_neg (by decide), if_neg (by decide), if_neg (by decide), if_neg (by decide), if_neg (by decide), if_neg (by decide), if_neg (by decide), if_neg (by decide), if_neg (by decide), if_neg (by decide), if_neg (by decide), if_neg (by decide), if_pos (show iZ 19 = (19 : Int32) from rfl)]
  unfold zcn
  rw [e9]
theorem ca20 (R : Rq T hz b (FL_tryRestore T b a h) v σ) : Cq T hz b (FL_call T b (iZ 20) a c d e h) v 2 σ := by
  obtain ⟨h', e9, O⟩ := R
  refine ⟨h', 0 + 2, ?_, by omega, O⟩
  unfold FL_call
  rw [if_neg (by decide), if_neg (by decide), if_neg (by decide), if_neg (by decide), if_neg (by decide), if_neg (by decide), if_neg (by decide), if_neg (by decide), if_neg (by decide), if_neg (by decide), if_neg (by decide), if_neg (by decide), if_neg (by decide), if_neg (by decide), if_neg (by decide), if_neg (by decide), if_neg (by decide), if_neg (by decide), if_neg (by decide), if_neg (by decide)]
  unfold zcn
  rw [e9]
theorem cq_ab (O : Ob T hz h b σ) {w : Int} (w1 : 0 ≤ w) (w2 : w ≤ 9) : Cq T hz b (FL_about T b (iZ w) h) (vab σ.1 w) 1 σ := by
  obtain ⟨h', m, e9, hm, O'⟩ := ca2 (c := iZ 0) (d := iZ 0) (e := iZ 0) (k_about O w1 w2)
  refine ⟨h', 0 + m, ?_, by omega, O'⟩
  unfold FL_about zcl
  simp only [q0, q2]
  rw [e9]
theorem cq_ab_no (O : Ob T hz h b σ) : Cq T hz b (FL_about T b (iZ 10) h) (-9999002) 1 σ := by
  obtain ⟨h', m, e9, hm, O'⟩ := ca2 (c := iZ 0) (d := iZ 0) (e := iZ 0) (k_about_no O)
  refine ⟨h', 0 + m, ?_, by omega, O'⟩
  unfold FL_about zcl
  simp only [q0, q2]
  rw [e9]
theorem ab0 (O : Ob T hz h b σ) : Cq T hz b (FL_about T b (iZ 0) h) (σ.1 0 0) 1 σ := cq_ab O (w := 0) (by omega) (by omega)
theorem ab1 (O : Ob T hz h b σ) : Cq T hz b (FL_about T b (iZ 1) h) (σ.1 0 1) 1 σ := cq_ab O (w := 1) (by omega) (by omega)
theorem ab2 (O : Ob T hz h b σ) : Cq T hz b (FL_about T b (iZ 2) h) (gsum σ.1 (cn σ.1)) 1 σ := cq_ab O (w := 2) (by omega) (by omega)
theorem ab3 (O : Ob T hz h b σ) : Cq T hz b (FL_about T b (iZ 3) h) (gsum σ.1 (dbt σ.1)) 1 σ := cq_ab O (w := 3) (by omega) (by omega)
theorem ab4 (O : Ob T hz h b σ) : Cq T hz b (FL_about T b (iZ 4) h) (gsum σ.1 (dcd σ.1)) 1 σ := cq_ab O (w := 4) (by omega) (by omega)
theorem ab5 (O : Ob T hz h b σ) : Cq T hz b (FL_about T b (iZ 5) h) (σ.1 0 2) 1 σ := cq_ab O (w := 5) (by omega) (by omega)
theorem ab6 (O : Ob T hz h b σ) : Cq T hz b (FL_about T b (iZ 6) h) (σ.1 0 3) 1 σ := cq_ab O (w := 6) (by omega) (by omega)
theorem ab7 (O : Ob T hz h b σ) : Cq T hz b (FL_about T b (iZ 7) h) (gsum σ.1 (fll σ.1)) 1 σ := cq_ab O (w := 7) (by omega) (by omega)
theorem ab8 (O : Ob T hz h b σ) : Cq T hz b (FL_about T b (iZ 8) h) (rd σ.1 0 0 1) 1 σ := cq_ab O (w := 8) (by omega) (by omega)
theorem ab9 (O : Ob T hz h b σ) : Cq T hz b (FL_about T b (iZ 9) h) (rd σ.1 1 0 1) 1 σ := cq_ab O (w := 9) (by omega) (by omega)
end Ca
