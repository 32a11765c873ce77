/-! both sides read a part: class and reference -/
/-- what the reference's F does from the character i on, with the page of e -/
def MPp (T : zT) (b o : Nat) (n : Int) (tx : Nat → Int) (tx7 r D kp kb : Nat → Int) (F : zH → Option (Int32 × zH)) (i : Int) (e : Nat → Nat → Int) (p res : Int) (e' : Nat → Nat → Int) : Prop := ∀ (d : Nat → Nat → Int) (cnt nxt : Int) (dd : Nat → Nat → Nat → Int) (fl : Nat → Int) (ds : Nat → Nat → Nat → Int) (fs : Nat → Int) (k : zH) (v9 : Nat → Int) (x9 : Int64) (rt : Nat → Int), St T k b o n tx d cnt nxt dd fl ds fs v9 tx7 r D kp kb x9 → v9 2 = n → v9 3 = i → Arr T k (b + 354 + 2) 739 rt → Pg e rt → ∃ k' v' rt', F k = some (iZ res, k') ∧ St T k' b o n tx d cnt nxt dd fl ds fs v' tx7 r D kp kb x9 ∧ v' 3 = p ∧ (∀ j, j ≠ 3 → v' j = v9 j) ∧ Arr T k' (b + 354 + 2) 739 rt' ∧ (res = 1 → Pg e' rt')
def Blk (T : zT) (b o : Nat) (n : Int) (tx : Nat → Int) (d : Nat → Nat → Int) (cnt nxt : Int) (dd : Nat → Nat → Nat → Int) (fl : Nat → Int) (ds : Nat → Nat → Nat → Int) (fs tx7 r D kp kb : Nat → Int) (v : Nat → Int) (x : Int64) (h : zH) (F : zH → Option (Int32 × zH)) (k : Nat) (i : Int) (e : Nat → Nat → Int) (i0 : Int) : Prop := (∃ p h', CR T b k i h = some (iZ p, h') ∧ (0 ≤ p ∧ p ≤ n) ∧ St T h' b o n tx d cnt nxt dd fl ds fs v tx7 r D kp kb x ∧ MPp T b o n tx tx7 r D kp kb F i0 e p 0 e) ∨ (∃ (k2 : Nat) (i' : Int) (h' : zH) (t' : Nat → Int) (e' : Nat → Nat → Int), CR T b k i h = CR T b k2 i' h' ∧ (k : Int) + i = k2 + i' ∧ (i0 < i' ∧ i' ≤ n) ∧ TrAt h' (b + 3) t' ∧ t' 0 = 3 ∧ ShAt T h' (b + 21) e' ∧ OkD e' ∧ St T h' b o n tx d cnt nxt dd fl ds fs v tx7 r D kp kb x ∧ MPp T b o n tx tx7 r D kp kb F i0 e i' 1 e')
section Bk
variable {T : zT} {h : zH} {b o : Nat} {n : Int} {tx : Nat → Int} {d : Nat → Nat → Int} {cnt nxt : Int} {dd : Nat → Nat → Nat → Int} {fl : Nat → Int} {ds : Nat → Nat → Nat → Int} {fs v tx7 r D kp kb : Nat → Int} {x : Int64}
variable {h' : zH} {t : Nat → Int} {e : Nat → Nat → Int}
theorem cr_bad (S : St T h b o n tx d cnt nxt dd fl ds fs v tx7 r D kp kb x) (H : TrAt h (b + 3) t) (ht : t 0 ≠ 3) (tb : -99 ≤ t 0 ∧ t 0 ≤ 99) (n2 : n ≤ 120) {i : Int} (i1 : 0 ≤ i) (i2 : i ≤ n) {C : Prop} (al : i < n → FX5_allows T (b + 3) (b + 21) (iZ (tx i.toNat)) h = some (iZ (ind C))) (hb : ¬ (i < n ∧ C)) (k : Nat) : CR T b (k + 1) i h = some (iZ i, h) := by
  by_cases g : i < n
  · have a := al g
    rw [ind_f (fun z => hb ⟨g, z⟩)] at a
    exact cr_no S i1 g n2 a k
  · have ei : i = n := by omega
    rw [ei]
    exact cr_stop S H ht tb (by omega) n2 k
theorem cr_good (S : St T h b o n tx d cnt nxt dd fl ds fs v tx7 r D kp kb x) (n2 : n ≤ 120) {i : Int} (i1 : 0 ≤ i) {C : Prop} (g : i < n ∧ C) (al : FX5_allows T (b + 3) (b + 21) (iZ (tx i.toNat)) h = some (iZ (ind C))) (tk : FX5_take T (b + 3) (b + 21) (iZ (tx i.toNat)) h = some h') (k : Nat) : CR T b (k + 1) i h = CR T b k (i + 1) h' := by
  rw [ind_t g.2] at al
  exact cr_go S i1 g.1 n2 al tk k
/-- a mark, from its column on -/
theorem mark_blk (S : St T h b o n tx d cnt nxt dd fl ds fs v tx7 r D kp kb x) (H : TrAt h (b + 3) t) (ht : t 0 = 4) (M : ShAt T h (b + 21) e) (hO : OkD e) (hT : ∀ j : Nat, (j : Int) < n → tx7 j = tx j ∧ 0 ≤ tx j ∧ tx j ≤ 255) (n2 : n ≤ 120) {i : Int} (i1 : 0 ≤ i) (i2 : i ≤ n) (q : Nat) : Blk T b o n tx d cnt nxt dd fl ds fs tx7 r D kp kb v x h (FX7_readMark T (b + 354)) (q + 6) i e i := by
  have tc : ∀ j : Int, 0 ≤ j → j < n → 0 ≤ tx j.toNat ∧ tx j.toNat ≤ 255 := fun j j1 j2 => (hT j.toNat (by omega)).2
  by_cases g4 : i < n ∧ colR e (dg (tx i.toNat))
  case neg =>
    refine Or.inl ⟨i, h, cr_bad S H (by omega) (by omega) n2 i1 i2 (fun w => al4 H M hO (tc i i1 w).1 (tc i i1 w).2 ht) g4 (q + 5), ⟨i1, i2⟩, S, fun d cnt nxt dd fl ds fs k v9 x9 rt K kN kI A Q => ?_⟩
    obtain ⟨k', v', e1, K', e3, lo, A'⟩ := rm1_no K hT kN n2 i1 i2 kI A Q hO g4
    exact ⟨k', v', rt, e1, K', e3, lo, A', fun z => absurd z (by decide)⟩
  obtain ⟨h1, t1, H1, M1, S1⟩ := tk4 S H M (tc i i1 g4.1).1 (tc i i1 g4.1).2 ht
  have c1 := cr_good S n2 i1 g4 (al4 H M hO (tc i i1 g4.1).1 (tc i i1 g4.1).2 ht) t1 (q + 5)
  have go1 := fun (d : Nat → Nat → Int) (cnt nxt : Int) (dd : Nat → Nat → Nat → Int) (fl : Nat → Int) (ds : Nat → Nat → Nat → Int) (fs : Nat → Int) (k : zH) (v9 : Nat → Int) (x9 : Int64) (rt : Nat → Int) (K : St T k b o n tx d cnt nxt dd fl ds fs v9 tx7 r D kp kb x9) (kN : v9 2 = n) (kI : v9 3 = i) (A : Arr T k (b + 354 + 2) 739 rt) (Q : Pg e rt) => rm1_go K hT kN n2 i1 i2 kI A Q hO g4
  have hd0 : 0 ≤ dg (tx i.toNat) ∧ dg (tx i.toNat) < e 0 0 := by
    obtain ⟨y, y1, y2⟩ := g4.2
    exact ⟨y1.1, y1.2.1⟩
  have ho := hO.1
  obtain ⟨cx, hcx⟩ : ∃ cx, cx = dg (tx i.toNat) := ⟨_, rfl⟩
  rw [← hcx] at hd0 H1
  have u11 : (upZ (upZ t 1 cx) 0 5) 1 = cx := rfl
  by_cases g5 : i + 1 < n ∧ inG e cx (dg (tx (i + 1).toNat)) ∧ cn e cx (dg (tx (i + 1).toNat)) < 2
  case neg =>
    refine Or.inl ⟨i + 1, h1, c1.trans (cr_bad S1 H1 (show (5 : Int) ≠ 3 by decide) (by show -99 ≤ (5 : Int) ∧ (5 : Int) ≤ 99; omega) n2 (by omega) (by omega) (fun w => al5 H1 M1 hO (by show -9 ≤ cx ∧ cx ≤ 9; omega) (tc (i + 1) (by omega) w).1 (tc (i + 1) (by omega) w).2 rfl) g5 (q + 4)), by omega, S1, fun d cnt nxt dd fl ds fs k v9 x9 rt K kN kI A Q => ?_⟩
    obtain ⟨k1, f1, K1, A1, -, -⟩ := go1 d cnt nxt dd fl ds fs k v9 x9 rt K kN kI A Q
    rw [← hcx] at f1
    obtain ⟨k', v', e1, K', e3, lo, A'⟩ := rm2_no K1 hT ((upZ_ne _ _ (by decide)).trans kN) n2 (i := i + 1) (by omega) (by omega) (upZ_self _ _ _) A1 Q hO hd0.1 hd0.2 g5
    exact ⟨k', v', rt, f1.trans e1, K', e3, fun j hj => (lo j hj).trans (upZ_ne _ _ hj), A', fun z => absurd z (by decide)⟩
  obtain ⟨h2, t2, H2, M2, S2⟩ := tk5 S1 H1 M1 (tc (i + 1) (by omega) g5.1).1 (tc (i + 1) (by omega) g5.1).2 rfl
  have c2 := cr_good S1 n2 (i := i + 1) (by omega) g5 (al5 H1 M1 hO (by show -9 ≤ cx ∧ cx ≤ 9; omega) (tc (i + 1) (by omega) g5.1).1 (tc (i + 1) (by omega) g5.1).2 rfl) t2 (q + 4)
  obtain ⟨cy, hcy⟩ : ∃ cy, cy = dg (tx (i + 1).toNat) := ⟨_, rfl⟩
  rw [← hcy] at H2
  have g5' := g5
  rw [← hcy] at g5'
  rw [show i + 1 + 1 = i + 2 from by omega] at c2
  have go2 : ∀ (d : Nat → Nat → Int) (cnt nxt : Int) (dd : Nat → Nat → Nat → Int) (fl : Nat → Int) (ds : Nat → Nat → Nat → Int) (fs : Nat → Int) (k : zH) (v9 : Nat → Int) (x9 : Int64) (rt : Nat → Int), St T k b o n tx d cnt nxt dd fl ds fs v9 tx7 r D kp kb x9 → v9 2 = n → v9 3 = i → Arr T k (b + 354 + 2) 739 rt → Pg e rt → ∃ k2, FX7_readMark T (b + 354) k = RM2 T (b + 354) (iZ cx) (iZ cy) k2 ∧ St T k2 b o n tx d cnt nxt dd fl ds fs (upZ (upZ v9 3 (i + 1)) 3 (i + 2)) tx7 r D kp kb x9 ∧ Arr T k2 (b + 354 + 2) 739 rt := fun d cnt nxt dd fl ds fs k v9 x9 rt K kN kI A Q => by
    obtain ⟨k1, f1, K1, A1, -, -⟩ := go1 d cnt nxt dd fl ds fs k v9 x9 rt K kN kI A Q
    rw [← hcx] at f1
    obtain ⟨k2, f2, K2, A2⟩ := rm2_go K1 hT ((upZ_ne _ _ (by decide)).trans kN) n2 (i := i + 1) (by omega) (by omega) (upZ_self _ _ _) A1 Q hO hd0.1 hd0.2 g5
    rw [← hcy] at f2
    rw [show i + 1 + 1 = i + 2 from by omega] at K2
    exact ⟨k2, f1.trans f2, K2, A2⟩
  have no3 : ∀ p : Int, ((p = i + 2 ∧ ¬ (i + 2 < n ∧ sgc (tx (i + 2).toNat))) ∨ (p = i + 2 + 1 ∧ (i + 2 < n ∧ sgc (tx (i + 2).toNat)) ∧ ¬ (i + 2 + 1 < n ∧ 0 ≤ dg (tx (i + 2 + 1).toNat) ∧ dg (tx (i + 2 + 1).toNat) ≤ 3)) ∨ (p = i + 2 + 2 ∧ (i + 2 < n ∧ sgc (tx (i + 2).toNat)) ∧ (i + 2 + 1 < n ∧ 0 ≤ dg (tx (i + 2 + 1).toNat) ∧ dg (tx (i + 2 + 1).toNat) ≤ 3) ∧ ¬ (i + 2 + 2 < n ∧ 0 ≤ dg (tx (i + 2 + 2).toNat) ∧ dg (tx (i + 2 + 2).toNat) ≤ 8))) → MPp T b o n tx tx7 r D kp kb (FX7_readMark T (b + 354)) i e p 0 e := fun p hp d cnt nxt dd fl ds fs k v9 x9 rt K kN kI A Q => by
    obtain ⟨k2, f2, K2, A2⟩ := go2 d cnt nxt dd fl ds fs k v9 x9 rt K kN kI A Q
    obtain ⟨k', v', e1, K', e3, lo, A'⟩ := rm3_no K2 hT ((upZ_ne _ _ (by decide)).trans ((upZ_ne _ _ (by decide)).trans kN)) n2 (i := i + 2) (by omega) (by omega) (upZ_self _ _ _) A2 Q hO (iZ cx) (iZ cy) hp
    exact ⟨k', v', rt, f2.trans e1, K', e3, fun j hj => (lo j hj).trans ((upZ_ne _ _ hj).trans (upZ_ne _ _ hj)), A', fun z => absurd z (by decide)⟩
  by_cases g6 : i + 2 < n ∧ sgc (tx (i + 2).toNat)
  case neg =>
    exact Or.inl ⟨i + 2, h2, c1.trans (c2.trans (cr_bad S2 H2 (show (6 : Int) ≠ 3 by decide) (by show -99 ≤ (6 : Int) ∧ (6 : Int) ≤ 99; omega) n2 (by omega) (by omega) (fun w => al6 H2 (tc (i + 2) (by omega) w).1 (tc (i + 2) (by omega) w).2 rfl) g6 (q + 3))), by omega, S2, no3 _ (Or.inl ⟨rfl, g6⟩)⟩
  obtain ⟨h3, t3, H3, M3, S3⟩ := tk6 S2 H2 M2 (tc (i + 2) (by omega) g6.1).1 (tc (i + 2) (by omega) g6.1).2 rfl
  have c3 := cr_good S2 n2 (i := i + 2) (by omega) g6 (al6 H2 (tc (i + 2) (by omega) g6.1).1 (tc (i + 2) (by omega) g6.1).2 rfl) t3 (q + 3)
  by_cases g7 : i + 2 + 1 < n ∧ 0 ≤ dg (tx (i + 2 + 1).toNat) ∧ dg (tx (i + 2 + 1).toNat) ≤ 3
  case neg =>
    exact Or.inl ⟨i + 2 + 1, h3, c1.trans (c2.trans (c3.trans (cr_bad S3 H3 (show (7 : Int) ≠ 3 by decide) (by show -99 ≤ (7 : Int) ∧ (7 : Int) ≤ 99; omega) n2 (by omega) (by omega) (fun w => al7 H3 (tc (i + 2 + 1) (by omega) w).1 (tc (i + 2 + 1) (by omega) w).2 rfl) g7 (q + 2)))), by omega, S3, no3 _ (Or.inr (Or.inl ⟨rfl, g6, g7⟩))⟩
  obtain ⟨h4, t4, H4, M4, S4⟩ := tk7 S3 H3 M3 (tc (i + 2 + 1) (by omega) g7.1).1 (tc (i + 2 + 1) (by omega) g7.1).2 rfl
  have c4 := cr_good S3 n2 (i := i + 2 + 1) (by omega) g7 (al7 H3 (tc (i + 2 + 1) (by omega) g7.1).1 (tc (i + 2 + 1) (by omega) g7.1).2 rfl) t4 (q + 2)
  rw [show i + 2 + 1 + 1 = i + 2 + 2 from by omega] at c4
  by_cases g8 : i + 2 + 2 < n ∧ 0 ≤ dg (tx (i + 2 + 2).toNat) ∧ dg (tx (i + 2 + 2).toNat) ≤ 8
  case neg =>
    exact Or.inl ⟨i + 2 + 2, h4, c1.trans (c2.trans (c3.trans (c4.trans (cr_bad S4 H4 (show (8 : Int) ≠ 3 by decide) (by show -99 ≤ (8 : Int) ∧ (8 : Int) ≤ 99; omega) n2 (by omega) (by omega) (fun w => al8 H4 (tc (i + 2 + 2) (by omega) w).1 (tc (i + 2 + 2) (by omega) w).2 rfl) g8 (q + 1))))), by omega, S4, no3 _ (Or.inr (Or.inr ⟨rfl, g6, g7, g8⟩))⟩
  obtain ⟨h5, t5, H5, M5, S5⟩ := tk8 S4 H4 M4 hO (show inG e cx cy from g5'.2.1) (show cn e cx cy < 2 from g5'.2.2) (tc (i + 2 + 2) (by omega) g8.1).1 (tc (i + 2 + 2) (by omega) g8.1).2 rfl
  have c5 := cr_good S4 n2 (i := i + 2 + 2) (by omega) g8 (al8 H4 (tc (i + 2 + 2) (by omega) g8.1).1 (tc (i + 2 + 2) (by omega) g8.1).2 rfl) t5 (q + 1)
  have hs := sgv_in g6.2
  have M5' : ShAt T h5 (b + 21) (dadd e cx cy (sgv (tx (i + 2).toNat)) (dg (tx (i + 2 + 1).toNat)) (dg (tx (i + 2 + 2).toNat))) := M5
  refine Or.inr ⟨q + 1, i + 2 + 2 + 1, h5, _, _, c1.trans (c2.trans (c3.trans (c4.trans c5))), by omega, by omega, H5, rfl, M5', OkD_add hO g5'.2.1 g5'.2.2 hs.1 hs.2 g7.2.1 g7.2.2 g8.2.1 g8.2.2, S5, fun d cnt nxt dd fl ds fs k v9 x9 rt K kN kI A Q => ?_⟩
  obtain ⟨k2, f2, K2, A2⟩ := go2 d cnt nxt dd fl ds fs k v9 x9 rt K kN kI A Q
  obtain ⟨k', v', rt', e1, K', e3, lo, A', Q'⟩ := rm3_go K2 hT ((upZ_ne _ _ (by decide)).trans ((upZ_ne _ _ (by decide)).trans kN)) n2 (i := i + 2) (by omega) (by omega) (upZ_self _ _ _) A2 Q hO g5'.2.1 g5'.2.2 g6 g7 g8
  exact ⟨k', v', rt', f2.trans e1, K', e3.trans (by omega), fun j hj => (lo j hj).trans ((upZ_ne _ _ hj).trans (upZ_ne _ _ hj)), A', fun _ => Q'⟩
end Bk
