/-! gap, margin, pen, any part -/
def RP (T : zT) (a0 : Nat) (h1 : zH) : Option (Int32 × zH) := zb2 (FX7_eat T a0 103 h1) fun x4 h5 => if x4 = 0 then (zb2 (FX7_eat T a0 118 h5) fun x7 h8 => if x7 = 0 then (zJ (fun (x9 : Int32) (h10 : zH) => if x9 = 0 ∨ x9 = 1 then some (x9, h10) else none) (fun J11 => zJ (fun (h12 : zH) => J11 0 h12) (fun J13 => zb2 (FX7_eat T a0 112 h8) fun x15 h16 => if x15 = 0 then (J13 h16) else (zb2 (FX7_readPen T a0 h16) fun x18 h19 => if x18 = 0 then (J13 h19) else (J11 1 h19))))) else (zb2 (FX7_readNumber T a0 2 0 9 h8) fun x21 h22 => if x21 = 0 ∨ x21 = 1 then some (x21, h22) else none)) else (zb2 (FX7_readNumber T a0 3 1 3 h5) fun x24 h25 => if x24 = 0 ∨ x24 = 1 then some (x24, h25) else none)
section Pb
variable {T : zT} {h : zH} {b o : Nat} {n : Int} {tx : Nat → Int} {d : Nat → Nat → Int} {cnt nxt : Int} {dd : Nat → Nat → Nat → Int} {fl : Nat → Int} {ds : Nat → Nat → Nat → Int} {fs v tx7 r D kp kb : Nat → Int} {x : Int64}
variable {h' : zH} {t : Nat → Int} {e : Nat → Nat → Int}
theorem rp_form (a0 : Nat) : FX7_readPart T a0 h = (zo h a0 7).bind fun _ => zJ (fun (h1 : zH) => RP T a0 h1) (fun J2 => (FX7_hasAnyRoom T a0 h).bind fun x27 => if x27 = 0 then (J2 h) else (zb2 (FX7_eat T a0 109 h) fun x29 h30 => if x29 = 0 then (J2 h30) else (zb2 (FX7_readMark T a0 h30) fun x32 h33 => if x32 = 0 ∨ x32 = 1 then some (x32, h33) else none))) := rfl
theorem gap_blk (S : St T h b o n tx d cnt nxt dd fl ds fs v tx7 r D kp kb x) (H : TrAt h (b + 3) t) (ht : t 0 = 9) (M : ShAt T h (b + 21) e) (hO : OkD e) (hT : ∀ j : Nat, (j : Int) < n → tx7 j = tx j ∧ 0 ≤ tx j ∧ tx j ≤ 255) (n2 : n ≤ 120) {i : Int} (i1 : 0 ≤ i) (i2 : i ≤ n) (q : Nat) : Blk T b o n tx d cnt nxt dd fl ds fs tx7 r D kp kb v x h (FX7_readNumber T (b + 354) (iZ 3) (iZ 1) (iZ 3)) (q + 1) i e i := by
  have tc : ∀ j : Int, 0 ≤ j → j < n → 0 ≤ tx j.toNat ∧ tx j.toNat ≤ 255 := fun j j1 j2 => (hT j.toNat (by omega)).2
  by_cases g : i < n ∧ 1 ≤ dg (tx i.toNat) ∧ dg (tx i.toNat) ≤ 3
  case neg =>
    refine Or.inl ⟨i, h, cr_bad S H (by omega) (by omega) n2 i1 i2 (fun w => al9 H (tc i i1 w).1 (tc i i1 w).2 ht) g q, ⟨i1, i2⟩, S, fun d cnt nxt dd fl ds fs k v9 x9 rt K kN kI A Q => ?_⟩
    obtain ⟨k', v', e1, K', e3, lo, A'⟩ := num_no K hT kN n2 i1 i2 kI A (w := 3) (by omega) (by omega) (by omega) (by omega) g
    exact ⟨k', v', rt, e1, K', e3, lo, A', fun z => absurd z (by decide)⟩
  obtain ⟨h1, t1, H1, M1, S1⟩ := tk9 S H M (tc i i1 g.1).1 (tc i i1 g.1).2 ht
  have c1 := cr_good S n2 i1 g (al9 H (tc i i1 g.1).1 (tc i i1 g.1).2 ht) t1 q
  refine Or.inr ⟨q, i + 1, h1, _, _, c1, by omega, by omega, H1, rfl, M1, OkD_gap hO g.2.1 g.2.2, S1, fun d cnt nxt dd fl ds fs k v9 x9 rt K kN kI A Q => ?_⟩
  obtain ⟨k', v', e1, K', e3, lo, A'⟩ := num_go K hT kN n2 i1 i2 kI A (w := 3) (by omega) (by omega) (by omega) (by omega) (by omega) (by omega) g
  exact ⟨k', v', _, e1, K', e3, lo, A', fun _ => Pg_gap Q hO⟩
theorem mar_blk (S : St T h b o n tx d cnt nxt dd fl ds fs v tx7 r D kp kb x) (H : TrAt h (b + 3) t) (ht : t 0 = 10) (M : ShAt T h (b + 21) e) (hO : OkD e) (hT : ∀ j : Nat, (j : Int) < n → tx7 j = tx j ∧ 0 ≤ tx j ∧ tx j ≤ 255) (n2 : n ≤ 120) {i : Int} (i1 : 0 ≤ i) (i2 : i ≤ n) (q : Nat) : Blk T b o n tx d cnt nxt dd fl ds fs tx7 r D kp kb v x h (FX7_readNumber T (b + 354) (iZ 2) (iZ 0) (iZ 9)) (q + 1) i e i := by
  have tc : ∀ j : Int, 0 ≤ j → j < n → 0 ≤ tx j.toNat ∧ tx j.toNat ≤ 255 := fun j j1 j2 => (hT j.toNat (by omega)).2
  have hd := dg_in (c := tx i.toNat)
  by_cases g : i < n ∧ 0 ≤ dg (tx i.toNat)
  case neg =>
    refine Or.inl ⟨i, h, cr_bad S H (by omega) (by omega) n2 i1 i2 (fun w => al10 H (tc i i1 w).1 (tc i i1 w).2 ht) g q, ⟨i1, i2⟩, S, fun d cnt nxt dd fl ds fs k v9 x9 rt K kN kI A Q => ?_⟩
    obtain ⟨k', v', e1, K', e3, lo, A'⟩ := num_no K hT kN n2 i1 i2 kI A (w := 2) (lo := 0) (hi := 9) (by omega) (by omega) (by omega) (by omega) (fun w => g ⟨w.1, w.2.1⟩)
    exact ⟨k', v', rt, e1, K', e3, lo, A', fun z => absurd z (by decide)⟩
  obtain ⟨h1, t1, H1, M1, S1⟩ := tk10 S H M (tc i i1 g.1).1 (tc i i1 g.1).2 ht
  have c1 := cr_good S n2 i1 g (al10 H (tc i i1 g.1).1 (tc i i1 g.1).2 ht) t1 q
  refine Or.inr ⟨q, i + 1, h1, _, _, c1, by omega, by omega, H1, rfl, M1, OkD_margin hO g.2 (by omega), S1, fun d cnt nxt dd fl ds fs k v9 x9 rt K kN kI A Q => ?_⟩
  obtain ⟨k', v', e1, K', e3, lo, A'⟩ := num_go K hT kN n2 i1 i2 kI A (w := 2) (lo := 0) (hi := 9) (by omega) (by omega) (by omega) (by omega) (by omega) (by omega) ⟨g.1, g.2, by omega⟩
  exact ⟨k', v', _, e1, K', e3, lo, A', fun _ => Pg_margin Q hO⟩
theorem pen_blk (S : St T h b o n tx d cnt nxt dd fl ds fs v tx7 r D kp kb x) (H : TrAt h (b + 3) t) (ht : t 0 = 11) (M : ShAt T h (b + 21) e) (hO : OkD e) (hT : ∀ j : Nat, (j : Int) < n → tx7 j = tx j ∧ 0 ≤ tx j ∧ tx j ≤ 255) (n2 : n ≤ 120) {i : Int} (i1 : 0 ≤ i) (i2 : i ≤ n) (q : Nat) : Blk T b o n tx d cnt nxt dd fl ds fs tx7 r D kp kb v x h (FX7_readPen T (b + 354)) (q + 4) i e i := by
  have tc : ∀ j : Int, 0 ≤ j → j < n → 0 ≤ tx j.toNat ∧ tx j.toNat ≤ 255 := fun j j1 j2 => (hT j.toNat (by omega)).2
  have no : ∀ p : Int, ((p = i ∧ ¬ (i < n ∧ 0 ≤ dg (tx i.toNat) ∧ dg (tx i.toNat) ≤ 1)) ∨ (p = i + 1 ∧ (i < n ∧ 0 ≤ dg (tx i.toNat) ∧ dg (tx i.toNat) ≤ 1) ∧ ¬ (i + 1 < n ∧ 0 ≤ dg (tx (i + 1).toNat) ∧ dg (tx (i + 1).toNat) ≤ 3)) ∨ (p = i + 2 ∧ (i < n ∧ 0 ≤ dg (tx i.toNat) ∧ dg (tx i.toNat) ≤ 1) ∧ (i + 1 < n ∧ 0 ≤ dg (tx (i + 1).toNat) ∧ dg (tx (i + 1).toNat) ≤ 3) ∧ ¬ (i + 2 < n ∧ 0 ≤ dg (tx (i + 2).toNat) ∧ dg (tx (i + 2).toNat) ≤ 8)) ∨ (p = i + 3 ∧ (i < n ∧ 0 ≤ dg (tx i.toNat) ∧ dg (tx i.toNat) ≤ 1) ∧ (i + 1 < n ∧ 0 ≤ dg (tx (i + 1).toNat) ∧ dg (tx (i + 1).toNat) ≤ 3) ∧ (i + 2 < n ∧ 0 ≤ dg (tx (i + 2).toNat) ∧ dg (tx (i + 2).toNat) ≤ 8) ∧ ¬ (i + 3 < n ∧ 0 ≤ dg (tx (i + 3).toNat) ∧ dg (tx (i + 3).toNat) ≤ 1))) → MPp T b o n tx tx7 r D kp kb (FX7_readPen T (b + 354)) i e p 0 e := fun p hp d cnt nxt dd fl ds fs k v9 x9 rt K kN kI A Q => by
    obtain ⟨k', v', e1, K', e3, lo, A'⟩ := pen_no K hT kN n2 i1 i2 kI A hp
    exact ⟨k', v', rt, e1, K', e3, lo, A', fun z => absurd z (by decide)⟩
  by_cases g0 : i < n ∧ 0 ≤ dg (tx i.toNat) ∧ dg (tx i.toNat) ≤ 1
  case neg =>
    exact Or.inl ⟨i, h, cr_bad S H (by omega) (by omega) n2 i1 i2 (fun w => al11 H (tc i i1 w).1 (tc i i1 w).2 ht) (fun w => g0 ⟨w.1, w.2.1, by omega⟩) (q + 3), ⟨i1, i2⟩, S, no _ (Or.inl ⟨rfl, g0⟩)⟩
  obtain ⟨h1, t1, H1, M1, S1⟩ := tk11 S H M (tc i i1 g0.1).1 (tc i i1 g0.1).2 ht
  have c1 := cr_good S n2 i1 (C := 0 ≤ dg (tx i.toNat) ∧ dg (tx i.toNat) < 2) ⟨g0.1, by omega⟩ (al11 H (tc i i1 g0.1).1 (tc i i1 g0.1).2 ht) t1 (q + 3)
  by_cases g1 : i + 1 < n ∧ 0 ≤ dg (tx (i + 1).toNat) ∧ dg (tx (i + 1).toNat) ≤ 3
  case neg =>
    exact Or.inl ⟨i + 1, h1, c1.trans (cr_bad S1 H1 (show (12 : Int) ≠ 3 by decide) (by show -99 ≤ (12 : Int) ∧ (12 : Int) ≤ 99; omega) n2 (by omega) (by omega) (fun w => al12 H1 (tc (i + 1) (by omega) w).1 (tc (i + 1) (by omega) w).2 rfl) g1 (q + 2)), by omega, S1, no _ (Or.inr (Or.inl ⟨rfl, g0, g1⟩))⟩
  obtain ⟨h2, t2, H2, M2, S2⟩ := tk12 S1 H1 M1 (tc (i + 1) (by omega) g1.1).1 (tc (i + 1) (by omega) g1.1).2 rfl
  have c2 := cr_good S1 n2 (i := i + 1) (by omega) g1 (al12 H1 (tc (i + 1) (by omega) g1.1).1 (tc (i + 1) (by omega) g1.1).2 rfl) t2 (q + 2)
  rw [show i + 1 + 1 = i + 2 from by omega] at c2
  by_cases g2 : i + 2 < n ∧ 0 ≤ dg (tx (i + 2).toNat) ∧ dg (tx (i + 2).toNat) ≤ 8
  case neg =>
    exact Or.inl ⟨i + 2, h2, c1.trans (c2.trans (cr_bad S2 H2 (show (13 : Int) ≠ 3 by decide) (by show -99 ≤ (13 : Int) ∧ (13 : Int) ≤ 99; omega) n2 (by omega) (by omega) (fun w => al13 H2 (tc (i + 2) (by omega) w).1 (tc (i + 2) (by omega) w).2 rfl) g2 (q + 1))), by omega, S2, no _ (Or.inr (Or.inr (Or.inl ⟨rfl, g0, g1, g2⟩)))⟩
  obtain ⟨h3, t3, H3, M3, S3⟩ := tk13 S2 H2 M2 (tc (i + 2) (by omega) g2.1).1 (tc (i + 2) (by omega) g2.1).2 rfl
  have c3 := cr_good S2 n2 (i := i + 2) (by omega) g2 (al13 H2 (tc (i + 2) (by omega) g2.1).1 (tc (i + 2) (by omega) g2.1).2 rfl) t3 (q + 1)
  rw [show i + 2 + 1 = i + 3 from by omega] at c3
  have hd3 := dg_in (c := tx (i + 3).toNat)
  by_cases g3 : i + 3 < n ∧ 0 ≤ dg (tx (i + 3).toNat) ∧ dg (tx (i + 3).toNat) ≤ 1
  case neg =>
    exact Or.inl ⟨i + 3, h3, c1.trans (c2.trans (c3.trans (cr_bad S3 H3 (show (14 : Int) ≠ 3 by decide) (by show -99 ≤ (14 : Int) ∧ (14 : Int) ≤ 99; omega) n2 (by omega) (by omega) (fun w => al14 H3 (tc (i + 3) (by omega) w).1 (tc (i + 3) (by omega) w).2 rfl) (fun w => g3 ⟨w.1, by omega, by omega⟩) q))), by omega, S3, no _ (Or.inr (Or.inr (Or.inr ⟨rfl, g0, g1, g2, g3⟩)))⟩
  obtain ⟨h4, t4, H4, M4, S4⟩ := tk14 S3 H3 M3 (show 0 ≤ dg (tx i.toNat) from g0.2.1) (show dg (tx i.toNat) < 2 from by omega) (tc (i + 3) (by omega) g3.1).1 (tc (i + 3) (by omega) g3.1).2 rfl
  have c4 := cr_good S3 n2 (i := i + 3) (by omega) (C := dg (tx (i + 3).toNat) = 0 ∨ dg (tx (i + 3).toNat) = 1) ⟨g3.1, by omega⟩ (al14 H3 (tc (i + 3) (by omega) g3.1).1 (tc (i + 3) (by omega) g3.1).2 rfl) t4 q
  have M4' : ShAt T h4 (b + 21) (dlet e (dg (tx i.toNat)).toNat (dg (tx (i + 1).toNat)) (dg (tx (i + 2).toNat)) (dg (tx (i + 3).toNat))) := M4
  refine Or.inr ⟨q, i + 3 + 1, h4, _, _, c1.trans (c2.trans (c3.trans c4)), by omega, by omega, H4, rfl, M4', OkD_let hO ⟨g1.2.1, g1.2.2, g2.2.1, g2.2.2, g3.2.1, g3.2.2⟩, S4, fun d cnt nxt dd fl ds fs k v9 x9 rt K kN kI A Q => ?_⟩
  obtain ⟨k', v', e1, K', e3, lo, A'⟩ := pen_go K hT kN n2 i1 i2 kI A g0 g1 g2 g3
  exact ⟨k', v', _, e1, K', e3.trans (by omega), lo, A', fun _ => Pg_let Q hO (by omega)⟩
theorem mp_go {F' F : zH → Option (Int32 × zH)} {i p res : Int} {e' : Nat → Nat → Int} (hr : res = 0 ∨ res = 1) (hF : ∀ (d : Nat → Nat → Int) (cnt nxt : Int) (dd : Nat → Nat → Nat → Int) (fl : Nat → Int) (ds : Nat → Nat → Nat → Int) (fs : Nat → Int) (k : zH) (v9 : Nat → Int) (x9 : Int64) (rt : Nat → Int), St T k b o n tx d cnt nxt dd fl ds fs v9 tx7 r D kp kb x9 → v9 2 = n → v9 3 = i → Arr T k (b + 354 + 2) 739 rt → Pg e rt → ∃ k1 v1, St T k1 b o n tx d cnt nxt dd fl ds fs v1 tx7 r D kp kb x9 ∧ v1 3 = i + 1 ∧ (∀ j, j ≠ 3 → v1 j = v9 j) ∧ Arr T k1 (b + 354 + 2) 739 rt ∧ ∀ (u : Int) (k' : zH), (u = 0 ∨ u = 1) → F' k1 = some (iZ u, k') → F k = some (iZ u, k')) (hM : MPp T b o n tx tx7 r D kp kb F' (i + 1) e p res e') : MPp T b o n tx tx7 r D kp kb F i e p res e' := fun d cnt nxt dd fl ds fs k v9 x9 rt K kN kI A Q => by
  obtain ⟨k1, v1, K1, a1, a2, A1, a3⟩ := hF d cnt nxt dd fl ds fs k v9 x9 rt K kN kI A Q
  obtain ⟨k', v', rt', e1, K', e3, lo, A', Q'⟩ := hM d cnt nxt dd fl ds fs k1 v1 x9 rt K1 ((a2 2 (by decide)).trans kN) a1 A1 Q
  exact ⟨k', v', rt', a3 res k' hr e1, K', e3, fun j hj => (lo j hj).trans (a2 j hj), A', Q'⟩
theorem blk_go {F' F : zH → Option (Int32 × zH)} {k : Nat} {i : Int} (hF : ∀ (d : Nat → Nat → Int) (cnt nxt : Int) (dd : Nat → Nat → Nat → Int) (fl : Nat → Int) (ds : Nat → Nat → Nat → Int) (fs : Nat → Int) (k : zH) (v9 : Nat → Int) (x9 : Int64) (rt : Nat → Int), St T k b o n tx d cnt nxt dd fl ds fs v9 tx7 r D kp kb x9 → v9 2 = n → v9 3 = i → Arr T k (b + 354 + 2) 739 rt → Pg e rt → ∃ k1 v1, St T k1 b o n tx d cnt nxt dd fl ds fs v1 tx7 r D kp kb x9 ∧ v1 3 = i + 1 ∧ (∀ j, j ≠ 3 → v1 j = v9 j) ∧ Arr T k1 (b + 354 + 2) 739 rt ∧ ∀ (u : Int) (k' : zH), (u = 0 ∨ u = 1) → F' k1 = some (iZ u, k') → F k = some (iZ u, k')) (hc : CR T b (k + 1) i h = CR T b k (i + 1) h') (B : Blk T b o n tx d cnt nxt dd fl ds fs tx7 r D kp kb v x h' F' k (i + 1) e (i + 1)) : Blk T b o n tx d cnt nxt dd fl ds fs tx7 r D kp kb v x h F (k + 1) i e i := by
  rcases B with ⟨p, h2, b1, b2, b3, b4⟩ | ⟨k2, i', h2, t', e', b1, b2, b3, b4, b5, b6, b7, b8, b9⟩
  · exact Or.inl ⟨p, h2, hc.trans b1, b2, b3, mp_go (Or.inl rfl) hF b4⟩
  · exact Or.inr ⟨k2, i', h2, t', e', hc.trans b1, by omega, by omega, b4, b5, b6, b7, b8, mp_go (Or.inr rfl) hF b9⟩
end Pb
