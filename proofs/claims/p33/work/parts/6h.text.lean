/-! the text that the law begins with; a new object -/
def frF (w v : Int) : Nat → Nat → Int := fun r j => if r = 0 then (if j = 0 then w else if j = 1 then v else 2) else if r = 1 then (if j = 1 then 3 else 0) else if r = 2 then (if j = 1 then 6 else 2) else if r = 3 then (if j = 1 then 1 else 0) else 0
theorem frF_fresh (w v : Int) : Fresh (frF w v) w v := ⟨⟨rfl, rfl, rfl, rfl, rfl, rfl, rfl, rfl, rfl, rfl⟩, fun _ _ => rfl⟩
theorem fresh_le {d e : Nat → Nat → Int} {w v : Int} (w1 : 1 ≤ w) (w2 : w ≤ 9) (v1 : 1 ≤ v) (v2 : v ≤ 9) (hd : Fresh d w v) (he : Fresh e w v) : LE d e := by
  obtain ⟨⟨a1, a2, a3, a4, a5, a6, a7, a8, a9, a10⟩, az⟩ := hd
  obtain ⟨⟨b1, b2, b3, b4, b5, b6, b7, b8, b9, b10⟩, bz⟩ := he
  refine ⟨fun j hj => ?_, fun k hk => ?_, fun x y g => ?_⟩
  · rcases (show j = 0 ∨ j = 1 ∨ j = 2 ∨ j = 3 by omega) with rfl | rfl | rfl | rfl <;> omega
  · rcases (show k = 0 ∨ k = 1 by omega) with rfl | rfl
    · exact ⟨by omega, by omega, by omega⟩
    · exact ⟨by omega, by omega, by omega⟩
  · unfold inG at g
    have e1 : cn d x y = 0 := az _ (by omega)
    have e2 : cn e x y = 0 := bz _ (by omega)
    rw [e1, e2]
    exact ⟨rfl, fun i i1 i2 => by omega⟩
theorem fresh_w {d : Nat → Nat → Int} {w v : Int} (hd : Fresh d w v) (W : Int) : Fresh (dput d 0 0 W) W v := by
  obtain ⟨⟨a1, a2, a3, a4, a5, a6, a7, a8, a9, a10⟩, az⟩ := hd
  exact ⟨⟨rfl, a2, a3, a4, a5, a6, a7, a8, a9, a10⟩, az⟩
theorem fresh_v {d : Nat → Nat → Int} {w v : Int} (hd : Fresh d w v) (V : Int) : Fresh (dput d 0 1 V) w V := by
  obtain ⟨⟨a1, a2, a3, a4, a5, a6, a7, a8, a9, a10⟩, az⟩ := hd
  exact ⟨⟨a1, rfl, a3, a4, a5, a6, a7, a8, a9, a10⟩, az⟩
def tg (w v u s y : Int) : Nat → Int := fun j => if j = 0 then 83 else if j = 1 then 48 + w else if j = 2 then 48 + v else if j = 3 then 112 else if j = 4 then 49 else if j = 5 then 48 + u else if j = 6 then 48 + s else 48 + y
def Nw (T : zT) (hz h : zH) (b m : Nat) (q : Nat → Int) : Prop := ∃ tx d nxt dd fl ds, St T hz h b m tx d 0 nxt dd fl ds (fun _ => 0) ∧ (0 ≤ nxt ∧ nxt < 14) ∧ ∀ j : Nat, j < m → tx j = q j
theorem clear4_z {T : zT} {h : zH} {S n : Nat} {dd : Nat → Nat → Nat → Int} (hF : SfAt T h S n dd (fun _ => 0)) (hn : n < 99) : ∃ h', FX4_clear T S h = some h' ∧ SfAt T h' S n dd (fun _ => 0) ∧ offF S n h h' := by
  obtain ⟨h1, f', e1, n1, v1, k1⟩ := fill_loop (v := 0) (K := fun (h9 : zH) => some h9) (by omega) FUEL 0 h _ hF.2.2.1 (by omega) (by unfold FUEL; omega)
  have ef : f' = fun _ => 0 := by
    funext j
    rw [v1 j]
    split <;> rfl
  subst ef
  have e2 : FX1_fill T (S + 2) (iZ 0) h = some h1 := by
    unfold FX1_fill
    rw [zo_Num hF.2.2.1, zsb]
    exact e1
  refine ⟨h1, ?_, ?_, fun q hq => k1 q (by omega)⟩
  · unfold FX4_clear
    rw [sf_zo hF, zsn, sf_r1 hF, zsn, q0, e2, zsn]
  · obtain ⟨a, ⟨g, b1, b2⟩, -, sh⟩ := hF
    exact ⟨(k1 _ (by omega)).trans a, ⟨g, (k1 _ (by omega)).trans b1, b2⟩, n1, fun j hj => (sh j hj).kept (fun q q1 q2 => k1 q (by omega))⟩
theorem dg_of {w : Int} (h1 : 0 ≤ w) (h2 : w ≤ 9) : dg (48 + w) = w := by
  unfold dg
  rw [if_pos (by omega)]
  omega
section Nw1
variable {T : zT} {hz h h' : zH} {b m : Nat} {q : Nat → Int} {σ : Sg}
theorem nw_append (N : Nw T hz h b m q) {c : Int} (c1 : 0 ≤ c) (c2 : c ≤ 255) (hm : m < 120) (hc : q m = c) : ∃ h', FL_tryAppend T b (iZ c) h = some (iZ ((m : Int) + 1), h') ∧ Nw T hz h' b (m + 1) q := by
  obtain ⟨tx, d, nxt, dd, fl, ds, S, hn, ht⟩ := N
  obtain ⟨h1, e1, N1, f1⟩ := put_in (v := c) S.tx0 (by omega) (i := (m : Int)) (by omega) (by omega)
  have S1 := S.text N1 f1
  obtain ⟨h2, e2, M2, f2⟩ := cs_s1 S1.cs0 ((m : Int) + 1)
  have S2 := S1.cs M2 f2
  have gc : (0 : Int) ≤ c ∧ c ≤ 255 := ⟨c1, c2⟩
  refine ⟨h2, ?_, _, d, nxt, dd, fl, ds, S2, hn, fun j hj => ?_⟩
  · unfold FL_tryAppend
    have e9 : FX6_append T b (iZ c) h = some (.ok (iZ ((m : Int) + 1)), h2) := by
      unfold FX6_append
      rw [cs_zo S.cs0, zsn, q0, q255, chkArg_t (by omega) (by omega) gc, zbx_ok, cs_g1 S.cs0, zsn, q120, if_pos (by rw [iZ_lt (by omega) (by omega) (by omega) (by omega)]; omega), cs_r0 S.cs0, zsn, zsn, e1, zsn, cs_g1 S1.cs0, zsn, q1, iZ_add, e2, zsn, cs_g1 M2, zsn]
    rw [e9, zbh_ok]
  · by_cases cj : j = m
    · rw [cj, show (m : Int).toNat = m from rfl, upZ_self, hc]
    · rw [upZ_ne _ _ (by rw [show (m : Int).toNat = m from rfl]; exact cj)]
      exact ht j (by omega)
theorem k_append_no (O : Ob T hz h b σ) {c : Int} (c1 : 256 ≤ c) (c2 : c ≤ 1000) : Rq T hz b (FL_tryAppend T b (iZ c) h) (-9999002) σ := by
  have O9 := O
  obtain ⟨n, tx, hn, d, nxt, dd, fl, ds, S, R⟩ := O
  unfold FL_tryAppend
  refine rq_ex (E := "java/lang/IllegalArgumentException") (h' := h) ?_ (by rw [if_pos rfl, qI2]) O9
  unfold FX6_append
  rw [cs_zo S.cs0, zsn, q0, q255, chkArg_f (by omega) (by omega) (by omega) (by omega) (by omega) (by omega) (by omega), zbx_er]
end Nw1
section Rg
variable {T : zT} {hz h h' : zH} {b m : Nat} {tx : Nat → Int} {d : Nat → Nat → Int} {cnt nxt : Int} {dd : Nat → Nat → Nat → Int} {fl : Nat → Int} {ds : Nat → Nat → Nat → Int} {fs t : Nat → Int} {e : Nat → Nat → Int} {w v u s y : Int}
def Pg9 (w v u s y : Int) (k : Nat) (t : Nat → Int) (e : Nat → Nat → Int) : Prop := match k with
  | 0 => t 0 = 0 ∧ Fresh e 6 6
  | 1 => t 0 = 1 ∧ Fresh e 6 6
  | 2 => t 0 = 2 ∧ Fresh e w 6
  | 3 => t 0 = 3 ∧ Fresh e w v
  | 4 => t 0 = 11 ∧ Fresh e w v
  | 5 => t 0 = 12 ∧ t 4 = 1 ∧ Fresh e w v
  | 6 => t 0 = 13 ∧ t 4 = 1 ∧ t 5 = u ∧ Fresh e w v
  | 7 => t 0 = 14 ∧ t 4 = 1 ∧ t 5 = u ∧ t 6 = s ∧ Fresh e w v
  | _ => t 0 = 3 ∧ LE (dlet (frF w v) 1 u s y) e
def Rg (T : zT) (hz h : zH) (b m : Nat) (tx : Nat → Int) (d : Nat → Nat → Int) (cnt nxt : Int) (dd : Nat → Nat → Nat → Int) (fl : Nat → Int) (ds : Nat → Nat → Nat → Int) (fs : Nat → Int) (w v u s y : Int) (k : Nat) : Prop := ∃ h' t e, CR T b FUEL 0 h = CR T b (FUEL - k) (k : Int) h' ∧ TrAt h' (b + 3) t ∧ ShAt T h' (b + 21) e ∧ St T hz h' b m tx d cnt nxt dd fl ds fs ∧ Pg9 w v u s y k t e
/-- a character more -/
theorem rg_st {k : Nat} (hk : k < 100) (hm : m ≤ 120) (hkm : k < m) {h1 h2 : zH} (S1 : St T hz h1 b m tx d cnt nxt dd fl ds fs) (S2 : St T hz h2 b m tx d cnt nxt dd fl ds fs) (e1 : CR T b FUEL 0 h = CR T b (FUEL - k) (k : Int) h1) (al : FX5_allows T (b + 3) (b + 21) (iZ (tx k)) h1 = some (iZ 1)) (tk : FX5_take T (b + 3) (b + 21) (iZ (tx k)) h1 = some h2) {t2 : Nat → Int} {d2 : Nat → Nat → Int} (H2 : TrAt h2 (b + 3) t2) (M2 : ShAt T h2 (b + 21) d2) (P : Pg9 w v u s y (k + 1) t2 d2) : Rg T hz h b m tx d cnt nxt dd fl ds fs w v u s y (k + 1) := by
  refine ⟨h2, t2, d2, ?_, H2, M2, S2, P⟩
  rw [e1, show FUEL - k = FUEL - (k + 1) + 1 by unfold FUEL; omega, cr_go S1 (i := (k : Int)) (by omega) (by omega) (by omega) al tk]
  rfl
theorem rg_0 (S : St T hz h b m tx d cnt nxt dd fl ds fs) (H : TrAt h (b + 3) t) (ht : t 0 = 0) (M : ShAt T h (b + 21) e) (hF : Fresh e 6 6) : Rg T hz h b m tx d cnt nxt dd fl ds fs w v u s y 0 := ⟨h, t, e, rfl, H, M, S, ht, hF⟩
theorem rg_1 (gw : 1 ≤ w ∧ w ≤ 9) (gv : 1 ≤ v ∧ v ≤ 9) (gu : 0 ≤ u ∧ u ≤ 3) (gs : 0 ≤ s ∧ s ≤ 8) (gy : 0 ≤ y ∧ y ≤ 1) (hm : m ≤ 120) (hkm : 0 < m) (hx : ∀ j : Nat, j < m → tx j = tg w v u s y j) (R : Rg T hz h b m tx d cnt nxt dd fl ds fs w v u s y 0) : Rg T hz h b m tx d cnt nxt dd fl ds fs w v u s y 1 := by
  obtain ⟨h1, t, e, e1, H, M, S1, ⟨p0, pF⟩⟩ := R
  have ec : tx 0 = 83 := hx 0 hkm
  have al : FX5_allows T (b + 3) (b + 21) (iZ (83)) h1 = _ := al0 H (c := 83) (by omega) (by omega) p0
  rw [ind_t (by first | exact rfl | exact Or.inr (Or.inr (Or.inr rfl)) | (unfold dg; decide))] at al
  obtain ⟨h2, e2, H2, M2, S2⟩ := tk0 S1 H M (c := 83) (by omega) (by omega) p0
  refine rg_st (k := 0) (by omega) hm hkm S1 S2 e1 (by rw [ec]; exact al) (by rw [ec]; exact e2) H2 M2 ?_
  exact ⟨upZ_self _ _ _, pF⟩
theorem rg_2 (gw : 1 ≤ w ∧ w ≤ 9) (gv : 1 ≤ v ∧ v ≤ 9) (gu : 0 ≤ u ∧ u ≤ 3) (gs : 0 ≤ s ∧ s ≤ 8) (gy : 0 ≤ y ∧ y ≤ 1) (hm : m ≤ 120) (hkm : 1 < m) (hx : ∀ j : Nat, j < m → tx j = tg w v u s y j) (R : Rg T hz h b m tx d cnt nxt dd fl ds fs w v u s y 1) : Rg T hz h b m tx d cnt nxt dd fl ds fs w v u s y 2 := by
  obtain ⟨h1, t, e, e1, H, M, S1, ⟨p0, pF⟩⟩ := R
  have ec : tx 1 = 48 + w := hx 1 hkm
  have al : FX5_allows T (b + 3) (b + 21) (iZ (48 + w)) h1 = _ := al1 H (c := 48 + w) (by omega) (by omega) p0
  rw [ind_t (by rw [dg_of (by omega) (by omega)]; omega)] at al
  obtain ⟨h2, e2, H2, M2, S2⟩ := tk1 S1 H M (c := 48 + w) (by omega) (by omega) p0
  refine rg_st (k := 1) (by omega) hm hkm S1 S2 e1 (by rw [ec]; exact al) (by rw [ec]; exact e2) H2 M2 ?_
  exact ⟨upZ_self _ _ _, by rw [dg_of (by omega) (by omega)]; exact fresh_w pF w⟩
theorem rg_3 (gw : 1 ≤ w ∧ w ≤ 9) (gv : 1 ≤ v ∧ v ≤ 9) (gu : 0 ≤ u ∧ u ≤ 3) (gs : 0 ≤ s ∧ s ≤ 8) (gy : 0 ≤ y ∧ y ≤ 1) (hm : m ≤ 120) (hkm : 2 < m) (hx : ∀ j : Nat, j < m → tx j = tg w v u s y j) (R : Rg T hz h b m tx d cnt nxt dd fl ds fs w v u s y 2) : Rg T hz h b m tx d cnt nxt dd fl ds fs w v u s y 3 := by
  obtain ⟨h1, t, e, e1, H, M, S1, ⟨p0, pF⟩⟩ := R
  have ec : tx 2 = 48 + v := hx 2 hkm
  have al : FX5_allows T (b + 3) (b + 21) (iZ (48 + v)) h1 = _ := al2 H (c := 48 + v) (by omega) (by omega) p0
  rw [ind_t (by rw [dg_of (by omega) (by omega)]; omega)] at al
  obtain ⟨h2, e2, H2, M2, S2⟩ := tk2 S1 H M (c := 48 + v) (by omega) (by omega) p0
  refine rg_st (k := 2) (by omega) hm hkm S1 S2 e1 (by rw [ec]; exact al) (by rw [ec]; exact e2) H2 M2 ?_
  exact ⟨upZ_self _ _ _, by rw [dg_of (by omega) (by omega)]; exact fresh_v pF v⟩
theorem rg_4 (gw : 1 ≤ w ∧ w ≤ 9) (gv : 1 ≤ v ∧ v ≤ 9) (gu : 0 ≤ u ∧ u ≤ 3) (gs : 0 ≤ s ∧ s ≤ 8) (gy : 0 ≤ y ∧ y ≤ 1) (hm : m ≤ 120) (hkm : 3 < m) (hx : ∀ j : Nat, j < m → tx j = tg w v u s y j) (R : Rg T hz h b m tx d cnt nxt dd fl ds fs w v u s y 3) : Rg T hz h b m tx d cnt nxt dd fl ds fs w v u s y 4 := by
  obtain ⟨h1, t, e, e1, H, M, S1, ⟨p0, pF⟩⟩ := R
  have ec : tx 3 = 112 := hx 3 hkm
  have al : FX5_allows T (b + 3) (b + 21) (iZ (112)) h1 = _ := al3 H M (OkD_fresh pF (by omega) (by omega) (by omega) (by omega)) (c := 112) (by omega) (by omega) p0
  rw [ind_t (by first | exact rfl | exact Or.inr (Or.inr (Or.inr rfl)) | (unfold dg; decide))] at al
  obtain ⟨h2, e2, H2, M2, S2⟩ := tk3 S1 H M (c := 112) (by omega) (by omega) p0
  refine rg_st (k := 3) (by omega) hm hkm S1 S2 e1 (by rw [ec]; exact al) (by rw [ec]; exact e2) H2 M2 ?_
  exact ⟨upZ_self _ _ _, pF⟩
theorem rg_5 (gw : 1 ≤ w ∧ w ≤ 9) (gv : 1 ≤ v ∧ v ≤ 9) (gu : 0 ≤ u ∧ u ≤ 3) (gs : 0 ≤ s ∧ s ≤ 8) (gy : 0 ≤ y ∧ y ≤ 1) (hm : m ≤ 120) (hkm : 4 < m) (hx : ∀ j : Nat, j < m → tx j = tg w v u s y j) (R : Rg T hz h b m tx d cnt nxt dd fl ds fs w v u s y 4) : Rg T hz h b m tx d cnt nxt dd fl ds fs w v u s y 5 := by
  obtain ⟨h1, t, e, e1, H, M, S1, ⟨p0, pF⟩⟩ := R
  have ec : tx 4 = 49 := hx 4 hkm
  have al : FX5_allows T (b + 3) (b + 21) (iZ (49)) h1 = _ := al11 H (c := 49) (by omega) (by omega) p0
  rw [ind_t (by first | exact rfl | exact Or.inr (Or.inr (Or.inr rfl)) | (unfold dg; decide))] at al
  obtain ⟨h2, e2, H2, M2, S2⟩ := tk11 S1 H M (c := 49) (by omega) (by omega) p0
  refine rg_st (k := 4) (by omega) hm hkm S1 S2 e1 (by rw [ec]; exact al) (by rw [ec]; exact e2) H2 M2 ?_
  exact ⟨upZ_self _ _ _, by rw [upZ_ne _ _ (by decide), upZ_self]; decide, pF⟩
theorem rg_6 (gw : 1 ≤ w ∧ w ≤ 9) (gv : 1 ≤ v ∧ v ≤ 9) (gu : 0 ≤ u ∧ u ≤ 3) (gs : 0 ≤ s ∧ s ≤ 8) (gy : 0 ≤ y ∧ y ≤ 1) (hm : m ≤ 120) (hkm : 5 < m) (hx : ∀ j : Nat, j < m → tx j = tg w v u s y j) (R : Rg T hz h b m tx d cnt nxt dd fl ds fs w v u s y 5) : Rg T hz h b m tx d cnt nxt dd fl ds fs w v u s y 6 := by
  obtain ⟨h1, t, e, e1, H, M, S1, ⟨p0, p4, pF⟩⟩ := R
  have ec : tx 5 = 48 + u := hx 5 hkm
  have al : FX5_allows T (b + 3) (b + 21) (iZ (48 + u)) h1 = _ := al12 H (c := 48 + u) (by omega) (by omega) p0
  rw [ind_t (by rw [dg_of (by omega) (by omega)]; omega)] at al
  obtain ⟨h2, e2, H2, M2, S2⟩ := tk12 S1 H M (c := 48 + u) (by omega) (by omega) p0
  refine rg_st (k := 5) (by omega) hm hkm S1 S2 e1 (by rw [ec]; exact al) (by rw [ec]; exact e2) H2 M2 ?_
  exact ⟨upZ_self _ _ _, by rw [upZ_ne _ _ (by decide), upZ_ne _ _ (by decide)]; exact p4, by rw [upZ_ne _ _ (by decide), upZ_self, dg_of (by omega) (by omega)], pF⟩
theorem rg_7 (gw : 1 ≤ w ∧ w ≤ 9) (gv : 1 ≤ v ∧ v ≤ 9) (gu : 0 ≤ u ∧ u ≤ 3) (gs : 0 ≤ s ∧ s ≤ 8) (gy : 0 ≤ y ∧ y ≤ 1) (hm : m ≤ 120) (hkm : 6 < m) (hx : ∀ j : Nat, j < m → tx j = tg w v u s y j) (R : Rg T hz h b m tx d cnt nxt dd fl ds fs w v u s y 6) : Rg T hz h b m tx d cnt nxt dd fl ds fs w v u s y 7 := by
  obtain ⟨h1, t, e, e1, H, M, S1, ⟨p0, p4, p5, pF⟩⟩ := R
  have ec : tx 6 = 48 + s := hx 6 hkm
  have al : FX5_allows T (b + 3) (b + 21) (iZ (48 + s)) h1 = _ := al13 H (c := 48 + s) (by omega) (by omega) p0
  rw [ind_t (by rw [dg_of (by omega) (by omega)]; omega)] at al
  obtain ⟨h2, e2, H2, M2, S2⟩ := tk13 S1 H M (c := 48 + s) (by omega) (by omega) p0
  refine rg_st (k := 6) (by omega) hm hkm S1 S2 e1 (by rw [ec]; exact al) (by rw [ec]; exact e2) H2 M2 ?_
  exact ⟨upZ_self _ _ _, by rw [upZ_ne _ _ (by decide), upZ_ne _ _ (by decide)]; exact p4, by rw [upZ_ne _ _ (by decide), upZ_ne _ _ (by decide)]; exact p5, by rw [upZ_ne _ _ (by decide), upZ_self, dg_of (by omega) (by omega)], pF⟩
theorem rg_8 (gw : 1 ≤ w ∧ w ≤ 9) (gv : 1 ≤ v ∧ v ≤ 9) (gu : 0 ≤ u ∧ u ≤ 3) (gs : 0 ≤ s ∧ s ≤ 8) (gy : 0 ≤ y ∧ y ≤ 1) (hm : m ≤ 120) (hkm : 7 < m) (hx : ∀ j : Nat, j < m → tx j = tg w v u s y j) (R : Rg T hz h b m tx d cnt nxt dd fl ds fs w v u s y 7) : Rg T hz h b m tx d cnt nxt dd fl ds fs w v u s y 8 := by
  obtain ⟨h1, t, e, e1, H, M, S1, ⟨p0, p4, p5, p6, pF⟩⟩ := R
  have ec : tx 7 = 48 + y := hx 7 hkm
  have al : FX5_allows T (b + 3) (b + 21) (iZ (48 + y)) h1 = _ := al14 H (c := 48 + y) (by omega) (by omega) p0
  rw [ind_t (by rw [dg_of (by omega) (by omega)]; omega)] at al
  obtain ⟨h2, e2, H2, M2, S2⟩ := tk14 S1 H M (by omega) (by omega) (c := 48 + y) (by omega) (by omega) p0
  refine rg_st (k := 7) (by omega) hm hkm S1 S2 e1 (by rw [ec]; exact al) (by rw [ec]; exact e2) H2 M2 ?_
  exact ⟨upZ_self _ _ _, by rw [dg_of (by omega) (by omega), p4, p5, p6]; exact le_let (fresh_le (by omega) (by omega) (by omega) (by omega) (frF_fresh w v) pF)⟩
theorem rg_len (gw : 1 ≤ w ∧ w ≤ 9) (gv : 1 ≤ v ∧ v ≤ 9) (gu : 0 ≤ u ∧ u ≤ 3) (gs : 0 ≤ s ∧ s ≤ 8) (gy : 0 ≤ y ∧ y ≤ 1) (hm : m ≤ 8) (hx : ∀ j : Nat, j < m → tx j = tg w v u s y j) (R : Rg T hz h b m tx d cnt nxt dd fl ds fs w v u s y 0) : Rg T hz h b m tx d cnt nxt dd fl ds fs w v u s y m := by
  have a1 : 0 < m → Rg T hz h b m tx d cnt nxt dd fl ds fs w v u s y 1 := fun z => rg_1 gw gv gu gs gy (by omega) z hx R
  have a2 : 1 < m → Rg T hz h b m tx d cnt nxt dd fl ds fs w v u s y 2 := fun z => rg_2 gw gv gu gs gy (by omega) z hx (a1 (by omega))
  have a3 : 2 < m → Rg T hz h b m tx d cnt nxt dd fl ds fs w v u s y 3 := fun z => rg_3 gw gv gu gs gy (by omega) z hx (a2 (by omega))
  have a4 : 3 < m → Rg T hz h b m tx d cnt nxt dd fl ds fs w v u s y 4 := fun z => rg_4 gw gv gu gs gy (by omega) z hx (a3 (by omega))
  have a5 : 4 < m → Rg T hz h b m tx d cnt nxt dd fl ds fs w v u s y 5 := fun z => rg_5 gw gv gu gs gy (by omega) z hx (a4 (by omega))
  have a6 : 5 < m → Rg T hz h b m tx d cnt nxt dd fl ds fs w v u s y 6 := fun z => rg_6 gw gv gu gs gy (by omega) z hx (a5 (by omega))
  have a7 : 6 < m → Rg T hz h b m tx d cnt nxt dd fl ds fs w v u s y 7 := fun z => rg_7 gw gv gu gs gy (by omega) z hx (a6 (by omega))
  have a8 : 7 < m → Rg T hz h b m tx d cnt nxt dd fl ds fs w v u s y 8 := fun z => rg_8 gw gv gu gs gy (by omega) z hx (a7 (by omega))
  rcases (show m = 0 ∨ m = 1 ∨ m = 2 ∨ m = 3 ∨ m = 4 ∨ m = 5 ∨ m = 6 ∨ m = 7 ∨ m = 8 by omega) with c | c | c | c | c | c | c | c | c
  · rw [show Rg T hz h b m tx d cnt nxt dd fl ds fs w v u s y m = Rg T hz h b m tx d cnt nxt dd fl ds fs w v u s y 0 by rw [c]]; exact R
  · have := a1 (by omega); rw [show Rg T hz h b m tx d cnt nxt dd fl ds fs w v u s y m = Rg T hz h b m tx d cnt nxt dd fl ds fs w v u s y 1 by rw [c]]; exact this
  · have := a2 (by omega); rw [show Rg T hz h b m tx d cnt nxt dd fl ds fs w v u s y m = Rg T hz h b m tx d cnt nxt dd fl ds fs w v u s y 2 by rw [c]]; exact this
  · have := a3 (by omega); rw [show Rg T hz h b m tx d cnt nxt dd fl ds fs w v u s y m = Rg T hz h b m tx d cnt nxt dd fl ds fs w v u s y 3 by rw [c]]; exact this
  · have := a4 (by omega); rw [show Rg T hz h b m tx d cnt nxt dd fl ds fs w v u s y m = Rg T hz h b m tx d cnt nxt dd fl ds fs w v u s y 4 by rw [c]]; exact this
  · have := a5 (by omega); rw [show Rg T hz h b m tx d cnt nxt dd fl ds fs w v u s y m = Rg T hz h b m tx d cnt nxt dd fl ds fs w v u s y 5 by rw [c]]; exact this
  · have := a6 (by omega); rw [show Rg T hz h b m tx d cnt nxt dd fl ds fs w v u s y m = Rg T hz h b m tx d cnt nxt dd fl ds fs w v u s y 6 by rw [c]]; exact this
  · have := a7 (by omega); rw [show Rg T hz h b m tx d cnt nxt dd fl ds fs w v u s y m = Rg T hz h b m tx d cnt nxt dd fl ds fs w v u s y 7 by rw [c]]; exact this
  · have := a8 (by omega); rw [show Rg T hz h b m tx d cnt nxt dd fl ds fs w v u s y m = Rg T hz h b m tx d cnt nxt dd fl ds fs w v u s y 8 by rw [c]]; exact this
/-- the text is read: its error position, the sheet -/
theorem nw_read (gw : 1 ≤ w ∧ w ≤ 9) (gv : 1 ≤ v ∧ v ≤ 9) (gu : 0 ≤ u ∧ u ≤ 3) (gs : 0 ≤ s ∧ s ≤ 8) (gy : 0 ≤ y ∧ y ≤ 1) (hm : m ≤ 8) (S : St T hz h b m tx d cnt nxt dd fl ds fs) (hx : ∀ j : Nat, j < m → tx j = tg w v u s y j) : ∃ h' e, FX6_readText T b h = some (iZ (if m = 3 ∨ m = 8 then -9 else m), h') ∧ ShAt T h' (b + 21) e ∧ St T hz h' b m tx d cnt nxt dd fl ds fs ∧ (m = 8 → LE (dlet (frF w v) 1 u s y) e) := by
  have S0 : ∃ t, TrAt h (b + 3) t := S.2.2.1 0 (by omega)
  have S1' : ∃ e, ShAt T h (b + 21) e := S.2.2.1 1 (by omega)
  obtain ⟨t0, H0⟩ := S0
  obtain ⟨e0, E0⟩ := S1'
  obtain ⟨h1, e1, g1, M1, f1, v1, z1⟩ := makeNew_eq E0
  have S1 := S.trial M1 f1
  have H1 : TrAt h1 (b + 3) t0 := (f1 (b + 3) (by omega)).trans H0
  obtain ⟨h2, g2, H2, f2⟩ := tr_set H1 (k := 0) (by omega) 0
  have S2 := S1.tr H2 f2
  have M2 : ShAt T h2 (b + 21) e1 := M1.kept (fun q q1 q2 => f2 q (by omega))
  have hF : Fresh e1 6 6 := ⟨v1, z1⟩
  obtain ⟨h3, t3, e3, g3, H3, M3, S3, P3⟩ := rg_len (u := u) (s := s) (y := y) gw gv gu gs gy hm hx (rg_0 (w := w) (v := v) (u := u) (s := s) (y := y) S2 H2 (upZ_self _ _ _) M2 hF)
  refine ⟨h3, e3, ?_, M3, S3, fun c => ?_⟩
  · have em : FUEL - m = FUEL - m - 1 + 1 := by unfold FUEL; omega
    rw [cr_form, cs_zo S.cs0, zsn, cs_r2 S.cs0, zsn, cs_r4 S.cs0, zsn]
    unfold FX5_begin
    rw [tr_zo H0, zsn, g1, zsn, q0, g2, zsn, zsn, g3, em]
    by_cases c : m = 3 ∨ m = 8
    · have t03 : t3 0 = 3 := by
        rcases c with c | c
        · rw [c] at P3; exact P3.1
        · rw [c] at P3; exact P3.1
      rw [if_pos c, cr_done S3 H3 t03 (by omega) (by omega)]
    · have tn : t3 0 ≠ 3 ∧ (-99 ≤ t3 0 ∧ t3 0 ≤ 99) := by
        rcases (show m = 0 ∨ m = 1 ∨ m = 2 ∨ m = 4 ∨ m = 5 ∨ m = 6 ∨ m = 7 by omega) with c | c | c | c | c | c | c <;> (rw [c] at P3; have := P3.1; omega)
      rw [if_neg c, cr_stop S3 H3 tn.1 tn.2 (by omega) (by omega)]
  · rw [c] at P3; exact P3.2
end Rg
section Nw2
variable {T : zT} {hz h h' : zH} {b m : Nat} {w v u s y : Int}
theorem nw_error (gw : 1 ≤ w ∧ w ≤ 9) (gv : 1 ≤ v ∧ v ≤ 9) (gu : 0 ≤ u ∧ u ≤ 3) (gs : 0 ≤ s ∧ s ≤ 8) (gy : 0 ≤ y ∧ y ≤ 1) (hm : m ≤ 8) (N : Nw T hz h b m (tg w v u s y)) : ∃ h', FX6_errorPosition T b h = some (iZ (if m = 3 ∨ m = 8 then -9 else m), h') ∧ Nw T hz h' b m (tg w v u s y) := by
  obtain ⟨tx, d, nxt, dd, fl, ds, S, hn, ht⟩ := N
  obtain ⟨h1, e, e1, M1, S1, -⟩ := nw_read gw gv gu gs gy hm S ht
  refine ⟨h1, ?_, tx, d, nxt, dd, fl, ds, S1, hn, ht⟩
  unfold FX6_errorPosition
  rw [cs_zo S.cs0, zsn, e1, zb2n]
/-- the law's beginning sheet -/
def bgn (w v u s y : Int) : Sg := (dlet (frF w v) 1 u s y, 0, fun _ _ _ => 0, fun _ => 0, fun _ _ _ => 0)
theorem nw_load (gw : 1 ≤ w ∧ w ≤ 9) (gv : 1 ≤ v ∧ v ≤ 9) (gu : 0 ≤ u ∧ u ≤ 3) (gs : 0 ≤ s ∧ s ≤ 8) (gy : 0 ≤ y ∧ y ≤ 1) (N : Nw T hz h b 8 (tg w v u s y)) : Rq T hz b (FL_tryLoad T b h) 0 (bgn w v u s y) := by
  obtain ⟨tx, d, nxt, dd, fl, ds, S, hn, ht⟩ := N
  obtain ⟨h1, e, e1, M1, S1, hl⟩ := nw_read gw gv gu gs gy (by omega) S ht
  have hle := hl rfl
  have hO : OkD (dlet (frF w v) 1 u s y) := OkD_let (OkD_fresh (frF_fresh w v) (by omega) (by omega) (by omega) (by omega)) ⟨gu.1, gu.2, gs.1, gs.2, gy.1, gy.2⟩
  rw [if_pos (Or.inr rfl)] at e1
  obtain ⟨h2, d2, e2, M2, hs, f2⟩ := takeFrom_eq S1.sh0 M1 (by omega)
  have S2 := S1.pres M2 f2
  obtain ⟨h3, e3, H3, f3⟩ := hs_s0 S2.hs0 0
  have S3 := S2.hist H3 (fun q hq => f3 q (by omega))
  obtain ⟨h4, e4, F4, f4⟩ := clear4_z S3.sf0 (by omega)
  have S4 := S3.slots F4 f4
  have l9 : LE (dlet (frF w v) 1 u s y) d2 := hle.trans (LE.same hs (hle.ok hO))
  have ez : gsum (dlet (frF w v) 1 u s y) (cn (dlet (frF w v) 1 u s y)) = 0 := by
    unfold gsum
    exact zsum_zero _ (fun i hi => zsum_zero _ (fun j hj => rfl))
  refine ⟨h4, ?_, 8, tx, by omega, d2, nxt, dd, fl, ds, S4, ⟨hO, l9⟩, ⟨by show (0 : Int) ≤ 0; omega, by show (0 : Int) ≤ 14; omega, hn.1, hn.2⟩, fun i hi => ?_, fun i hi => ⟨Or.inl rfl, fun c => ?_⟩⟩
  · have e9 : FX6_load T b h = some (.ok (iZ 0), h4) := by
      unfold FX6_load FX0_forget
      rw [cs_zo S.cs0, zsn, e1, zb2n, qm9, if_pos rfl, cs_r3 S1.cs0, zsn, cs_r4 S1.cs0, zsn, e2, zsn, cs_r6 S2.cs0, zsn, hs_zo S2.hs0, zsn, q0, e3, zsn, zsn, cs_r7 S3.cs0, zsn, e4, zsn, cs_r3 S4.cs0, zsn, countMarks_eq S4.sh0 (l9.ok hO), zsn, le_cnt l9 hO, ez]
    unfold FL_tryLoad
    rw [e9, zbh_ok]
  · have : (i : Int) < 0 := hi
    omega
  · have c' : (0 : Int) = 1 := c
    omega
end Nw2
/-- a new object -/
theorem nw_new {T : zT} {h : zH} {b : Nat} {q : Nat → Int} (s : Nat) (hs : s = b + 1) : ∃ h', (∀ {ρ : Type} (G : Nat → zH → Option ρ), ((znw h b 6 [.null, .int 0, .null, .null, .null, .null, .null, .null, .null, .null, .null, .null]).bind fun h1 => zb2 (FX6_init T b s h1) G) = G (b + 354) h') ∧ Nw T h' h' b 0 q ∧ ∀ q, q < b ∨ b + 353 < q → h' q = h q := by
  obtain ⟨h', d, d1, d2, dd, ds, e, ⟨a1, a2, a3, a4, a5, a6, a7, a8, a9, a10, a11, a12, a13⟩, f⟩ := new_class T h b s hs
  refine ⟨h', e, ⟨_, d, 0, dd, _, ds, ⟨⟨a1, a2, a4, a8, a9⟩, trivial, fun j hj => ?_, offO.refl⟩, by omega, fun j hj => by omega⟩, f⟩
  have z9 : RdIn (fun _ _ => 0) := ⟨by show (-99 : Int) ≤ 0; omega, by show (0 : Int) ≤ 99; omega, by show (-99 : Int) ≤ 0; omega, by show (0 : Int) ≤ 99; omega, by show (-99 : Int) ≤ 0; omega, by show (0 : Int) ≤ 99; omega⟩
  rcases (show j = 0 ∨ j = 1 ∨ j = 2 ∨ j = 3 ∨ j = 4 ∨ j = 5 ∨ j = 6 by omega) with rfl | rfl | rfl | rfl | rfl | rfl | rfl
  · exact ⟨_, a3⟩
  · exact ⟨_, a6⟩
  · exact ⟨_, a7⟩
  · exact ⟨_, a10, z9⟩
  · exact ⟨_, a11, z9⟩
  · exact ⟨_, a12⟩
  · exact ⟨_, a13⟩
