/-! one call as a pattern: marks (code 6 of the law) -/
theorem zbx_ok {α β : Type} (x : α) (h : zH) (G : α → zH → Option (Except String β × zH)) : zbx (some (.ok x, h)) G = G x h := by unfold zbx; rfl
theorem zbx_er {α β : Type} (E : String) (h : zH) (G : α → zH → Option (Except String β × zH)) : zbx (some (.error E, h)) G = some (.error E, h) := by unfold zbx; rfl
theorem zbh_ok {α ρ : Type} (x : α) (h : zH) (G : α → zH → Option ρ) (K : String → zH → Option ρ) : zbh (some (.ok x, h)) G K = G x h := by unfold zbh; rfl
theorem zbh_er {α ρ : Type} (E : String) (h : zH) (G : α → zH → Option ρ) (K : String → zH → Option ρ) : zbh (some (.error E, h)) G K = K E h := by unfold zbh; rfl
/-- what a call needs of both objects to look at the present sheet: b the class's, b + 354 the reference's, o the law's long -/
def Bs (T : zT) (h : zH) (b o : Nat) (n : Int) (d : Nat → Nat → Int) (v r : Nat → Int) : Prop := CsAt h b n ∧ ShAt T h (b + 4) d ∧ OkD d ∧ MoAt h (b + 354) v ∧ Arr T h (b + 357) 739 r ∧ Pg d r ∧ OutA T h o ∧ b + 367 < o
theorem Bs.kept {T : zT} {h h' : zH} {b o : Nat} {n : Int} {d : Nat → Nat → Int} {v v' r : Nat → Int} (B : Bs T h b o n d v r) (hM : MoAt h' (b + 354) v') (hA : OutA T h' o) (f : ∀ q, q ≠ b + 354 → q ≠ o → h' q = h q) : Bs T h' b o n d v' r := by
  obtain ⟨a1, a2, a3, a4, a5, a6, a7, a8⟩ := B
  exact ⟨cs_kept a1 (f _ (by omega) (by omega)), a2.kept (fun q q1 q2 => f q (by omega) (by omega)), a3, hM, a5.kept (f _ (by omega) (by omega)), a6, hA, a8⟩
theorem call_marks {T : zT} {h : zH} {b o : Nat} {n : Int} {d : Nat → Nat → Int} {v r : Nat → Int} (B : Bs T h b o n d v r) {x y : Int} (x1 : -2147483648 ≤ x) (x2 : x < 2147483648) (y1 : -2147483648 ≤ y) (y2 : y < 2147483648) : ∃ c val h1 h2, FL_marks T b (iZ x) (iZ y) o h = some (iZ c, h1) ∧ FX7_marks T (b + 354) (iZ x) (iZ y) h1 = some (iZ val, h2) ∧ (0 ≤ c ∧ c < 10) ∧ (-2147483648 ≤ val ∧ val < 2147483648) ∧ FX7_thrown T (b + 354) h2 = some (iZ c) ∧ (c = 0 → zli T h2 o 0 = some (lZ val)) ∧ Bs T h2 b o n d (upZ v 0 c) r ∧ ∀ q, q ≠ b + 354 → q ≠ o → h2 q = h q := by
  obtain ⟨a1, a2, a3, a4, a5, a6, a7, a8⟩ := id B
  by_cases g : inG d x y
  · have hcn := a3.cn g
    obtain ⟨h1, e1, z1, o1, f1⟩ := out_set a7 (lZ (cn d x y))
    have B1 := B.kept (mo_kept a4 (f1 _ (by omega))) o1 (fun q _ q2 => f1 q q2)
    obtain ⟨b1, b2, b3, b4, b5, b6, b7, b8⟩ := id B1
    obtain ⟨h2, e2, M2, f2⟩ := refused_eq (T := T) b4 (c := 0) (by omega) (by omega)
    have B2 := B1.kept M2 (out_kept o1 (f2 _ (by omega))) (fun q q1 _ => f2 q q1)
    refine ⟨0, cn d x y, h1, h2, ?_, ?_, by omega, by omega, ?_, fun _ => ?_, B2, fun q q1 q2 => (f2 q q1).trans (f1 q q2)⟩
    · unfold FL_marks FX6_marks
      rw [cs_zo a1, zsn, chkCell_t a1 a2 a3 g, zbx_ok, cs_r3 a1, zsn, marksIn_t a2 a3 g, zsn, zbh_ok, iZ_long (by omega) (by omega), e1, zsn, q0]
    · unfold FX7_marks
      rw [mo_zo b4, zsn]
      simp only [zJn]
      rw [mo_r5 b4, zsn, isCell_t b5 b6.1 b3 g, zsn, q0, if_neg (by decide), e2, if_pos rfl, zb2n, if_pos rfl, mo_r5 M2, zsn, cellAt_eq, zsn]
      have z : zai T h2 (b + 354 + 3) (iZ (cel x y)) = some (iZ (cn d x y)) := zai_c B2.2.2.2.2.1 b6.1 b3 g
      rw [z, zsn]
    · rw [thrown_eq M2, upZ_self]
    · unfold zli at z1 ⊢
      rw [f2 o (by omega)]
      exact z1
  · obtain ⟨h2, e2, M2, f2⟩ := refused_eq (T := T) a4 (c := 1) (by omega) (by omega)
    have B2 := B.kept M2 (out_kept a7 (f2 _ (by omega))) (fun q q1 _ => f2 q q1)
    refine ⟨1, 0, h, h2, ?_, ?_, by omega, by omega, ?_, fun z => by omega, B2, fun q q1 _ => f2 q q1⟩
    · unfold FL_marks FX6_marks
      rw [cs_zo a1, zsn, chkCell_f a1 a2 a3 x1 x2 y1 y2 g, zbx_er, zbh_er, if_pos rfl, q1]
    · unfold FX7_marks
      rw [mo_zo a4, zsn]
      simp only [zJn]
      rw [mo_r5 a4, zsn, isCell_f a5 a6.1 a3 x1 x2 y1 y2 g, zsn, q0, if_pos rfl, q1, e2, if_neg (by omega), zb2n, if_neg (by decide)]
    · rw [thrown_eq M2, upZ_self]
