/-! a pen, a margin, a decision with the fewest doubts; undone -/
def bstF (σ : Sg) : Sg := (σ.1, (if 13 < σ.2.1 then 13 else σ.2.1), σ.2.2.1, σ.2.2.2.1, σ.2.2.2.2)
section Bt
variable {T : zT} {hz h : zH} {b : Nat} {σ : Sg} {a c e e4 : Int32}
theorem Ob.cnt (O : Ob T hz h b σ) : 0 ≤ σ.2.1 ∧ σ.2.1 ≤ 14 := by
  obtain ⟨n, tx, hn, d, nxt, dd, fl, ds, S, hO, hc, -⟩ := id O
  exact ⟨hc.1, hc.2.1⟩
theorem bst_u (σ : Sg) (f : Nat → Nat → Int) : undone (acted σ f) = bstF σ := by
  have e : (if 14 < σ.2.1 + 1 then 14 else σ.2.1 + 1) - 1 = if 13 < σ.2.1 then 13 else σ.2.1 := by split <;> split <;> omega
  show (σ.1, (if 14 < σ.2.1 + 1 then 14 else σ.2.1 + 1) - 1, σ.2.2.1, σ.2.2.2.1, σ.2.2.2.2) = bstF σ
  rw [e]
  rfl
theorem bst_b (σ : Sg) : bstF (bstF σ) = bstF σ := by
  have e : (if 13 < (if 13 < σ.2.1 then 13 else σ.2.1) then 13 else (if 13 < σ.2.1 then 13 else σ.2.1)) = if 13 < σ.2.1 then 13 else σ.2.1 := by split <;> omega
  show (σ.1, (if 13 < (if 13 < σ.2.1 then 13 else σ.2.1) then 13 else (if 13 < σ.2.1 then 13 else σ.2.1)), σ.2.2.1, σ.2.2.2.1, σ.2.2.2.2) = bstF σ
  rw [e]
  rfl
theorem ku {f : Nat → Nat → Int} (O : Ob T hz h b (acted σ f)) (hc : 0 ≤ σ.2.1) : ∃ v : Int, 0 ≤ v ∧ v ≤ 13 ∧ Cq T hz b (FL_call T b (iZ 14) a c e e4 h) v 1 (bstF σ) := by
  have hk := O.cnt
  have hp : 0 < (acted σ f).2.1 := by
    show 0 < (if 14 < σ.2.1 + 1 then 14 else σ.2.1 + 1)
    split <;> omega
  have r := ca14 (a := a) (c := c) (d := e) (e := e4) (k_undo O hp)
  rw [bst_u] at r
  exact ⟨_, by omega, by omega, r⟩
theorem pdb_own (d : Nat → Nat → Int) (L : Nat) : pdb d L (d 1 L) (d 2 L) = gsum d (dbt d) := by
  have e : dlet d L (d 1 L) (d 2 L) (d 3 L) = d := by
    funext i j
    have key : ∀ (f : Nat → Nat → Int) (r : Nat), dput f r L (f r L) = f := fun f r => by
      funext i j
      by_cases hi : i = r
      · subst hi
        rw [dput_self]
        by_cases hj : j = L
        · subst hj; exact upZ_self _ _ _
        · exact upZ_ne _ _ hj
      · rw [dput_ne hi]
    unfold dlet
    rw [key d 1, key d 2, key d 3]
  unfold pdb
  rw [e]
theorem pdb_01 {d : Nat → Nat → Int} (hO : OkD d) {L : Nat} (hL : L < 2) {u v : Int} (g : 0 ≤ u ∧ u ≤ 3 ∧ 0 ≤ v ∧ v ≤ 8) : 0 ≤ pdb d L u v ∧ pdb d L u v ≤ 81000 := by
  have hlw : lwOk d L := hO.lw hL
  have h3 : 0 ≤ d 3 L ∧ d 3 L ≤ 1 := hlw.2.2.2.2
  exact dbt_in (OkD_let (k := L) hO ⟨g.1, g.2.1, g.2.2.1, g.2.2.2, h3⟩)
set_option maxHeartbeats 4000000 in
set_option maxRecDepth 10000 in
theorem fl_best {L : Nat} (hL : L < 2) {x : Int} (x1 : 0 ≤ x) (x2 : x < 2147483648) (O : Ob T hz h b σ) : Gd (FL_best T b (iZ L) (iZ x) h) 5970 (Q1 T hz b (bstF σ)) := by
  have hO := O.ok
  have hc := O.cnt
  have hW := hO.1
  have hlw : lwOk σ.1 L := hO.lw hL
  have hlw2 : 0 ≤ σ.1 1 L ∧ σ.1 1 L ≤ 3 ∧ 0 ≤ σ.1 2 L ∧ σ.1 2 L ≤ 8 ∧ 0 ≤ σ.1 3 L ∧ σ.1 3 L ≤ 1 := hlw
  have hd := dbt_in hO
  have e11 : iZ 1 &&& iZ 1 = iZ 1 := by decide
  obtain ⟨u, v, hu, hv, eb, sp⟩ := bp_spec hO hL
  have pb := pdb_01 hO hL (u := (u : Int)) (v := (v : Int)) (by omega)
  have px := pdb_01 hO hL (u := x % 4) (v := x / 4 % 9) (by omega)
  have own1 : pdb σ.1 L u v ≤ gsum σ.1 (dbt σ.1) := by
    rw [← pdb_own σ.1 L]
    have s := (sp (σ.1 1 L).toNat (σ.1 2 L).toNat (by omega) (by omega)).1
    rw [show (((σ.1 1 L).toNat : Nat) : Int) = σ.1 1 L by omega, show (((σ.1 2 L).toNat : Nat) : Int) = σ.1 2 L by omega] at s
    exact s
  have s2 : pdb σ.1 L u v ≤ pdb σ.1 L (x % 4) (x / 4 % 9) ∧ (pdb σ.1 L (x % 4) (x / 4 % 9) = pdb σ.1 L u v → 10 * (u : Int) + v ≤ 10 * (x % 4) + x / 4 % 9) := by
    have s := sp (x % 4).toNat (x / 4 % 9).toNat (by omega) (by omega)
    rw [show (((x % 4).toNat : Nat) : Int) = x % 4 by omega, show (((x / 4 % 9).toNat : Nat) : Int) = x / 4 % 9 by omega] at s
    exact ⟨s.1, fun z => by have := s.2 z; omega⟩
  have hb1 : (bstF σ).1 = σ.1 := rfl
  have hbc : 0 ≤ (bstF σ).2.1 := by
    show 0 ≤ (if 13 < σ.2.1 then 13 else σ.2.1)
    split <;> omega
  have hbb := bst_b σ
  unfold FL_best
  simp only [qm9]
  simp only [q0, q1, q2, q3, q4, q9, q10, r11, r12, r13, q14, q16_, r17, r100_]
  refine gd_J (fun J => ∀ h, Ob T hz h b (bstF σ) → Gd (J (sumV σ.1) (iZ (gsum σ.1 (dbt σ.1))) (iZ (σ.1 3 L)) (iZ (10 * (u : Int) + v)) (iZ (pdb σ.1 L u v)) (iZ 1) h) 2990 (Q1 T hz b (bstF σ))) (fun h O => ?_) (fun J8 hJ8 => ?_)
  · refine gd_J (fun J => ∀ h, Ob T hz h b (bstF σ) → Gd (J (iZ 1) (iZ 1) h) 2984 (Q1 T hz b (bstF σ))) (fun h O => ?_) (fun J12 hJ12 => ?_)
    · refine gd_J (fun J => ∀ h m, Ob T hz h b (bstF σ) → m = gmv σ.1 10 → Gd (J (iZ 1) (iZ m) h) 2980 (Q1 T hz b (bstF σ))) (fun h m O hm => ?_) (fun J16 hJ16 => ?_)
      · refine gd_J (fun J => ∀ h, Ob T hz h b (bstF σ) → Gd (J (iZ 1) h) 2975 (Q1 T hz b (bstF σ))) (fun h O => ?_) (fun J19 hJ19 => ?_)
        · refine gd_J (fun J => ∀ h, Ob T hz h b (bstF σ) → Gd (J (iZ 1) h) 2966 (Q1 T hz b (bstF σ))) (fun h O => ?_) (fun J22 hJ22 => ?_)
          · refine gd_J (fun J => ∀ h, Ob T hz h b (bstF σ) → Gd (J (iZ 1) h) 0 (Q1 T hz b (bstF σ))) (fun h O => gd_t (Or.inr rfl) (gd_ret ⟨rfl, O⟩)) (fun J25 hJ25 => ?_)
            refine gd_J (fun _ => True) trivial (fun J27 _ => ?_)
            refine gd_f (by decide) ?_
            refine gd_gd (fl_sum O) (by omega) (fun w h' hq => ?_)
            obtain ⟨hw, O⟩ := hq
            exact gd_t (by rw [hw, hb1]; exact lg_eq0.2 rfl) ((hJ25 h' O).mono (by omega))
          · refine gd_cl (ca17 (k_clears O hL)) (by omega) (fun h O => ?_)
            rw [hb1]
            by_cases z : bdv σ.1 L = -9
            · exact gd_t (by rw [z]) ((hJ22 h O).mono (by omega))
            · obtain ⟨X, Y, i, g, i1, i2, i3, i4, i5, ev, pos⟩ := bd_spec hO hL z
              have g9 := hO.g9 g
              obtain ⟨hD, eD⟩ := dbt_dec hO g i1 i3 hL i4 i5
              have dD := dbt_in hD
              have dn : 0 ≤ dbt σ.1 X Y := by
                have := hO.cn g
                unfold dbt; split <;> omega
              refine gd_f (fun w => z ((iZ_eq (by omega) (by omega) (by omega) (by omega)).1 w)) ?_
              refine gd_J (fun J => ∀ h, Ob T hz h b (bstF σ) → Gd (J (iZ 1) (iZ 1) h) 2966 (Q1 T hz b (bstF σ))) (fun h O => ?_) (fun J39 hJ39 => ?_)
              · rw [e11]; exact hJ22 h O
              · refine gd_J (fun _ => True) trivial (fun J42 _ => ?_)
                refine gd_s (zdivI_iZ (a := bdv σ.1 L) (b := 100) (by omega) (by omega) (by omega) (by omega)) ?_
                refine gd_s (zdivI_iZ (a := bdv σ.1 L) (b := 10) (by omega) (by omega) (by omega) (by omega)) ?_
                refine gd_s (zremI_iZ (a := bdv σ.1 L / 10) (b := 10) (by omega) (by omega) (by omega) (by omega)) ?_
                refine gd_s (zremI_iZ (a := bdv σ.1 L) (b := 10) (by omega) (by omega) (by omega) (by omega)) ?_
                rw [show bdv σ.1 L / 100 = X by omega, show bdv σ.1 L / 10 % 10 = Y by omega, show bdv σ.1 L % 10 = i by omega]
                have kd := k_decide O (x := X) (y := Y) (i := i) (k := (L : Int)) g i1 i3 (by omega) (fun w => i5 w.2)
                have ek : kv (L : Int) = (L : Int) := by unfold kv; rw [if_pos (by omega)]
                rw [ek, hb1, eD] at kd
                refine gd_cl (ca10 kd) (by omega) (fun h O => ?_)
                refine gd_lt (by omega) (by omega) (by omega) (by omega) (fun w => by omega) (fun _ => ?_)
                refine gd_lt (by omega) (by omega) (by omega) (by omega) (fun w => by omega) (fun _ => ?_)
                refine gd_J (fun J => Gd (J (iZ 1)) 2970 (Q1 T hz b (bstF σ))) ?_ (fun J52 hJ52 => ?_)
                · obtain ⟨w, w1, w2, U⟩ := ku (a := iZ 0) (c := iZ 0) (e := iZ 0) (e4 := iZ 0) O hbc
                  rw [hbb] at U
                  refine gd_cl U (by omega) (fun h O => ?_)
                  refine gd_lt (by omega) (by omega) (by omega) (by omega) (fun w => by omega) (fun _ => ?_)
                  exact (hJ39 h O).mono (by omega)
                · refine gd_eq (by omega) (by omega) (by omega) (by omega) (fun _ => hJ52.mono (by omega)) (fun w => ?_)
                  have := pos w
                  exact gd_le (by omega) (by omega) (by omega) (by omega) (fun w => by omega) (fun _ => hJ52.mono (by omega))
        · rcases gmv_spec (d := σ.1) 10 with ⟨g1, g2⟩ | ⟨q, g1, g2, g3, g4⟩
          · have em : m = -9 := by omega
            rw [em]
            refine gd_f (by decide) ?_
            refine gd_J (fun J => Gd (J (iZ 0) (iZ 12) b (iZ 1)) 2978 (Q1 T hz b (bstF σ))) ?_ (fun J61 hJ61 => gd_t rfl (hJ61.mono (by omega)))
            have md := dbt_in (OkD_margin (m := 0) hO (by omega) (by omega))
            have mn : gsum (dput σ.1 0 2 0) (dbt (dput σ.1 0 2 0)) ≠ 0 := g2 0 (by omega)
            refine gd_J (fun J => ∀ h, Ob T hz h b (bstF σ) → Gd (J (iZ 1) (iZ 1) h) 2975 (Q1 T hz b (bstF σ))) (fun h O => ?_) (fun J65 hJ65 => ?_)
            · rw [e11]; exact hJ19 h O
            · refine gd_J (fun _ => True) trivial (fun J68 _ => ?_)
              have km := k_margin O (m := 0) (by omega)
              rw [hb1] at km
              refine gd_cl (ca12 km) (by omega) (fun h O => ?_)
              refine gd_lt (by omega) (by omega) (by omega) (by omega) (fun w => by omega) (fun _ => ?_)
              refine gd_cl (ab3 O) (by omega) (fun h O => ?_)
              show Gd (if iZ (gsum (dput σ.1 0 2 0) (dbt (dput σ.1 0 2 0))) ≤ iZ 0 then _ else _) _ _
              refine gd_le (by omega) (by omega) (by omega) (by omega) (fun w => by omega) (fun _ => ?_)
              obtain ⟨w, w1, w2, U⟩ := ku (a := iZ 0) (c := iZ 0) (e := iZ 0) (e4 := iZ 0) O hbc
              rw [hbb] at U
              refine gd_cl U (by omega) (fun h O => ?_)
              refine gd_lt (by omega) (by omega) (by omega) (by omega) (fun w => by omega) (fun _ => ?_)
              exact (hJ65 h O).mono (by omega)
          · have em : m = q := by omega
            rw [em]
            refine gd_eq (by omega) (by omega) (by omega) (by omega) (fun _ => (hJ19 h O).mono (by omega)) (fun z => ?_)
            refine gd_J (fun J => Gd (J (iZ ((q : Int) + 1)) (iZ 12) b (iZ 1)) 2978 (Q1 T hz b (bstF σ))) ?_ (fun J61 hJ61 => ?_)
            · have md := dbt_in (OkD_margin (m := (q : Int) + 1) hO (by omega) (by omega))
              have mn : gsum (dput σ.1 0 2 ((q : Int) + 1)) (dbt (dput σ.1 0 2 ((q : Int) + 1))) ≠ 0 := g4 (q + 1) (by omega) (by omega)
              refine gd_J (fun J => ∀ h, Ob T hz h b (bstF σ) → Gd (J (iZ 1) (iZ 1) h) 2975 (Q1 T hz b (bstF σ))) (fun h O => ?_) (fun J65 hJ65 => ?_)
              · rw [e11]; exact hJ19 h O
              · refine gd_J (fun _ => True) trivial (fun J68 _ => ?_)
                have km := k_margin O (m := (q : Int) + 1) (by omega)
                rw [hb1] at km
                refine gd_cl (ca12 km) (by omega) (fun h O => ?_)
                refine gd_lt (by omega) (by omega) (by omega) (by omega) (fun w => by omega) (fun _ => ?_)
                refine gd_cl (ab3 O) (by omega) (fun h O => ?_)
                show Gd (if iZ (gsum (dput σ.1 0 2 ((q : Int) + 1)) (dbt (dput σ.1 0 2 ((q : Int) + 1)))) ≤ iZ 0 then _ else _) _ _
                refine gd_le (by omega) (by omega) (by omega) (by omega) (fun w => by omega) (fun _ => ?_)
                obtain ⟨w, w1, w2, U⟩ := ku (a := iZ 0) (c := iZ 0) (e := iZ 0) (e4 := iZ 0) O hbc
                rw [hbb] at U
                refine gd_cl U (by omega) (fun h O => ?_)
                refine gd_lt (by omega) (by omega) (by omega) (by omega) (fun w => by omega) (fun _ => ?_)
                exact (hJ65 h O).mono (by omega)
            · refine gd_eq (by omega) (by omega) (by omega) (by omega) (fun w => by omega) (fun _ => ?_)
              rw [iZ_add]
              exact hJ61.mono (by omega)
      · rw [e11]
        refine gd_b2 (k_greatest O).choose_spec.1 ?_
        have O' := (k_greatest O).choose_spec.2
        revert O'
        generalize (k_greatest O).choose = h9
        intro O'
        rw [hb1]
        rcases gmv_spec (d := σ.1) 10 with ⟨g1, g2⟩ | ⟨q, g1, g2, g3, g4⟩
        · have J := hJ16 h9 (gmv σ.1 10) O' rfl
          rw [g1] at J ⊢
          exact gd_t rfl (J.mono (by omega))
        · have J : ∀ h, Ob T hz h b (bstF σ) → _ := fun h O => hJ16 h (gmv σ.1 10) O rfl
          rw [g1] at J ⊢
          refine gd_f (fun w => by have := (iZ_eq (by omega) (by omega) (by omega) (by omega)).1 w; omega) ?_
          refine gd_J (fun J => ∀ h, Ob T hz h b (bstF σ) → Gd (J (iZ 1) (iZ 1) h) 2980 (Q1 T hz b (bstF σ))) (fun h O => ?_) (fun J87 hJ87 => ?_)
          · rw [e11]; exact J h O
          · refine gd_J (fun _ => True) trivial (fun J90 _ => ?_)
            have mn : gsum (dput σ.1 0 2 (q : Int)) (dbt (dput σ.1 0 2 (q : Int))) = 0 := g3
            have km := k_margin O' (m := (q : Int)) (by omega)
            rw [hb1] at km
            refine gd_cl (ca12 km) (by omega) (fun h O => ?_)
            refine gd_lt (by omega) (by omega) (by omega) (by omega) (fun w => by omega) (fun _ => ?_)
            refine gd_cl (ab3 O) (by omega) (fun h O => ?_)
            show Gd (if iZ (gsum (dput σ.1 0 2 (q : Int)) (dbt (dput σ.1 0 2 (q : Int)))) = iZ 0 then _ else _) _ _
            refine gd_t (by rw [mn]) ?_
            obtain ⟨w, w1, w2, U⟩ := ku (a := iZ 0) (c := iZ 0) (e := iZ 0) (e4 := iZ 0) O hbc
            rw [hbb] at U
            refine gd_cl U (by omega) (fun h O => ?_)
            refine gd_lt (by omega) (by omega) (by omega) (by omega) (fun w => by omega) (fun _ => ?_)
            exact (hJ87 h O).mono (by omega)
    · refine gd_J (fun _ => True) trivial (fun J105 _ => ?_)
      refine gd_J (fun J => ∀ h, Ob T hz h b (acted (bstF σ) (dlet σ.1 L (x % 4) (x / 4 % 9) (σ.1 3 L))) → Gd (J (iZ 1) h) 2986 (Q1 T hz b (bstF σ))) (fun h O => ?_) (fun J108 hJ108 => ?_)
      · obtain ⟨w, w1, w2, U⟩ := ku (a := iZ 0) (c := iZ 0) (e := iZ 0) (e4 := iZ 0) O hbc
        rw [hbb] at U
        refine gd_cl U (by omega) (fun h O => ?_)
        refine gd_lt (by omega) (by omega) (by omega) (by omega) (fun w => by omega) (fun _ => ?_)
        exact (hJ12 h O).mono (by omega)
      · refine gd_s (zremI_iZ (a := x) (b := 4) (by omega) (by omega) (by omega) (by omega)) ?_
        refine gd_s (zdivI_iZ (a := x) (b := 4) (by omega) (by omega) (by omega) (by omega)) ?_
        refine gd_s (zremI_iZ (a := x / 4) (b := 9) (by omega) (by omega) (by omega) (by omega)) ?_
        have kp := k_pen O hL (u := x % 4) (s := x / 4 % 9) (w := σ.1 3 L) (by omega) (by omega) (by omega)
        rw [hb1] at kp
        refine gd_cl (ca11 kp) (by omega) (fun h O => ?_)
        show Gd (if iZ (pdb σ.1 L u v) < iZ (pdb σ.1 L (x % 4) (x / 4 % 9)) then _ else _) _ _
        refine gd_lt (by omega) (by omega) (by omega) (by omega) (fun w => (hJ108 h O).mono (by omega)) (fun w => ?_)
        show Gd (if iZ (pdb σ.1 L (x % 4) (x / 4 % 9)) = iZ (pdb σ.1 L u v) then _ else _) _ _
        refine gd_eq (by omega) (by omega) (by omega) (by omega) (fun z => ?_) (fun z => by omega)
        refine gd_f (fun y => ?_) ((hJ108 h O).mono (by omega))
        rw [iZ_mul, iZ_add] at y
        have y1 := (iZ_lt (by omega) (by omega) (by omega) (by omega)).1 y
        have y2 := s2.2 z
        omega
  · refine gd_J (fun _ => True) trivial (fun J126 _ => ?_)
    refine gd_gd (fl_sum O) (by omega) (fun w h' hq => ?_)
    obtain ⟨hw, O⟩ := hq
    subst hw
    refine gd_cl (ab3 O) (by omega) (fun h O => ?_)
    refine gd_cl (ca3 (k_letter O hL (w := 2) (by omega) (by omega))) (by omega) (fun h O => ?_)
    refine gd_cl (ca16 (k_best O hL)) (by omega) (fun h O => ?_)
    rw [eb]
    refine gd_s (zdivI_iZ (a := 10 * (u : Int) + v) (b := 10) (by omega) (by omega) (by omega) (by omega)) ?_
    refine gd_s (zremI_iZ (a := 10 * (u : Int) + v) (b := 10) (by omega) (by omega) (by omega) (by omega)) ?_
    rw [show (10 * (u : Int) + v) / 10 = u by omega, show (10 * (u : Int) + v) % 10 = v by omega]
    show Gd (zcl (FL_call T b (iZ 11) (iZ L) (iZ u) (iZ v) (iZ (σ.1 3 L)) h) _) _ _
    have kp := k_pen O hL (u := (u : Int)) (s := (v : Int)) (w := σ.1 3 L) (by omega) (by omega) (by omega)
    refine gd_cl (ca11 kp) (by omega) (fun h O => ?_)
    show Gd (if iZ (pdb σ.1 L u v) < iZ 0 then _ else _) _ _
    refine gd_lt (by omega) (by omega) (by omega) (by omega) (fun w => by omega) (fun _ => ?_)
    show Gd (if iZ (gsum σ.1 (dbt σ.1)) < iZ (pdb σ.1 L u v) then _ else _) _ _
    refine gd_lt (by omega) (by omega) (by omega) (by omega) (fun w => by omega) (fun _ => ?_)
    obtain ⟨w, w1, w2, U⟩ := ku (a := iZ 0) (c := iZ 0) (e := iZ 0) (e4 := iZ 0) O hc.1
    refine gd_cl U (by omega) (fun h O => ?_)
    refine gd_lt (by omega) (by omega) (by omega) (by omega) (fun w => by omega) (fun _ => ?_)
    exact (hJ8 h O).mono (by omega)
end Bt
