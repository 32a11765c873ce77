/-! the actions -/
section Nx
variable {d e : Nat → Nat → Int}
/-- alike before, alike behind it -/
theorem le_add (h : LE d e) (hO : OkD d) {x y s k w : Int} (g : inG d x y) (hc : cn d x y < 2) : LE (dadd d x y s k w) (dadd e x y s k w) := by
  have g9 := hO.g9 g
  have hcn := hO.cn g
  refine ⟨fun j hj => ?_, fun q hq => ?_, fun X Y G => ?_⟩
  · rw [dadd_lo (by omega), dadd_lo (by omega)]; exact h.1 j hj
  · rw [dadd_lo (by omega), dadd_lo (by omega), dadd_lo (by omega), dadd_lo (by omega), dadd_lo (by omega), dadd_lo (by omega)]; exact h.2.1 q hq
  · have G' : inG d X Y := (inG_row (dadd_lo (by omega))).mp G
    have G9 := hO.g9 G'
    have hcN := hO.cn G'
    have e1 := dadd_cn (d := d) (s := s) (k := k) (w := w) g9 G9
    have e2 := dadd_cn (d := e) (s := s) (k := k) (w := w) g9 G9
    rw [e1, e2, h.cc g, h.cc G']
    refine ⟨rfl, fun i i1 i2 => ?_⟩
    obtain ⟨a5, a6, a7, a8⟩ := dadd_m (d := d) (x := x) (y := y) (s := s) (k := k) (w := w) (q := pl X Y i)
    obtain ⟨b5, b6, b7, b8⟩ := dadd_m (d := e) (x := x) (y := y) (s := s) (k := k) (w := w) (q := pl X Y i)
    rw [a5, a6, a7, a8, b5, b6, b7, b8, h.cc g]
    by_cases c : pl X Y i = pl x y (cn d x y)
    · rw [c, upZ_self, upZ_self, upZ_self, upZ_self, upZ_self, upZ_self, upZ_self, upZ_self]
      exact ⟨rfl, rfl, rfl, rfl⟩
    · rw [upZ_ne _ _ c, upZ_ne _ _ c, upZ_ne _ _ c, upZ_ne _ _ c, upZ_ne _ _ c, upZ_ne _ _ c, upZ_ne _ _ c, upZ_ne _ _ c]
      refine h.mm G' i1 ?_
      by_cases cc : X = x ∧ Y = y
      · rw [if_pos cc] at i2
        rw [cc.1, cc.2]
        rw [cc.1, cc.2] at c
        by_cases ci : i = cn d x y
        · exact absurd (by rw [ci]) c
        · omega
      · rw [if_neg cc] at i2
        exact i2
theorem le_rem (h : LE d e) (hO : OkD d) {x y i : Int} (g : inG d x y) (i1 : 0 ≤ i) (i2 : i < cn d x y) : LE (drem d x y i) (drem e x y i) := by
  have g9 := hO.g9 g
  have hcn := hO.cn g
  refine ⟨fun j hj => ?_, fun q hq => ?_, fun X Y G => ?_⟩
  · rw [drem_lo (by omega), drem_lo (by omega)]; exact h.1 j hj
  · rw [drem_lo (by omega), drem_lo (by omega), drem_lo (by omega), drem_lo (by omega), drem_lo (by omega), drem_lo (by omega)]; exact h.2.1 q hq
  · have G' : inG d X Y := (inG_row (drem_lo (by omega))).mp G
    have G9 := hO.g9 G'
    have hcN := hO.cn G'
    have e1 := drem_cn (d := d) (i := i) g9 G9
    have e2 := drem_cn (d := e) (i := i) g9 G9
    rw [e1, e2, h.cc g, h.cc G']
    refine ⟨rfl, fun j j1 j2 => ?_⟩
    by_cases cc : X = x ∧ Y = y
    · rw [if_pos cc] at j2
      have ej : j = 0 := by omega
      rw [cc.1, cc.2, ej]
      obtain ⟨a5, a6, a7, a8⟩ := drem_0 (d := d) (x := x) (y := y) (i := i)
      obtain ⟨b5, b6, b7, b8⟩ := drem_0 (d := e) (x := x) (y := y) (i := i)
      rw [a5, a6, a7, a8, b5, b6, b7, b8]
      refine h.mm g ?_ ?_
      · split <;> omega
      · split <;> omega
    · rw [if_neg cc] at j2
      have hq : pl X Y j ≠ pl x y 0 := pl_ne g9 G9 (by omega) (by omega) j1 (by omega) (fun z => cc ⟨z.1, z.2.1⟩)
      obtain ⟨a5, a6, a7, a8⟩ := drem_ot (d := d) (i := i) hq
      obtain ⟨b5, b6, b7, b8⟩ := drem_ot (d := e) (i := i) hq
      rw [a5, a6, a7, a8, b5, b6, b7, b8]
      exact h.mm G' j1 j2
theorem le_dc (h : LE d e) {x y i z : Int} : LE (ddec d x y i z) (ddec e x y i z) := by
  refine ⟨fun j hj => ?_, fun q hq => ?_, fun X Y G => ?_⟩
  · rw [ddec_lo (by omega), ddec_lo (by omega)]; exact h.1 j hj
  · rw [ddec_lo (by omega), ddec_lo (by omega), ddec_lo (by omega), ddec_lo (by omega), ddec_lo (by omega), ddec_lo (by omega)]; exact h.2.1 q hq
  · have G' : inG d X Y := (inG_row (ddec_lo (by omega))).mp G
    have e1 : cn (ddec d x y i z) X Y = cn d X Y := cn_row (ddec_lo (by omega)) X Y
    have e2 : cn (ddec e x y i z) X Y = cn e X Y := cn_row (ddec_lo (by omega)) X Y
    rw [e1, e2]
    refine ⟨h.cc G', fun j j1 j2 => ?_⟩
    obtain ⟨a5, a6, a7, a8⟩ := h.mm G' j1 j2
    rw [ddec_lo (by omega), ddec_lo (by omega), ddec_lo (by omega), ddec_lo (by omega), ddec_lo (by omega), ddec_lo (by omega), ddec_8, ddec_8]
    refine ⟨a5, a6, a7, ?_⟩
    by_cases c : pl X Y j = pl x y i
    · rw [upZ_eq _ _ c, upZ_eq _ _ c]
    · rw [upZ_ne _ _ c, upZ_ne _ _ c]; exact a8
/-- only the first four rows differ -/
theorem le_row {d' e' : Nat → Nat → Int} (h : LE d e) (h0 : d' 0 0 = d 0 0 ∧ d' 0 1 = d 0 1) (a : ∀ j, j < 4 → e' 0 j = d' 0 j) (c : ∀ k, k < 2 → e' 1 k = d' 1 k ∧ e' 2 k = d' 2 k ∧ e' 3 k = d' 3 k) (hd : ∀ r, 3 < r → d' r = d r) (he : ∀ r, 3 < r → e' r = e r) : LE d' e' := by
  refine ⟨a, c, fun X Y G => ?_⟩
  have G' : inG d X Y := by
    unfold inG at G ⊢
    rw [h0.1, h0.2] at G
    exact G
  have e1 : cn d' X Y = cn d X Y := cn_row (hd 4 (by omega)) X Y
  have e2 : cn e' X Y = cn e X Y := cn_row (he 4 (by omega)) X Y
  rw [e1, e2, hd 5 (by omega), hd 6 (by omega), hd 7 (by omega), hd 8 (by omega), he 5 (by omega), he 6 (by omega), he 7 (by omega), he 8 (by omega)]
  exact h.2.2 X Y G'
theorem le_let (h : LE d e) {k : Nat} {u v w : Int} : LE (dlet d k u v w) (dlet e k u v w) := by
  refine le_row h ⟨by rw [dlet_ot (Or.inl rfl)], by rw [dlet_ot (Or.inl rfl)]⟩ (fun j hj => by rw [dlet_ot (Or.inl rfl), dlet_ot (Or.inl rfl)]; exact h.1 j hj) (fun q hq => ?_) (fun r hr => dlet_ot (Or.inr hr)) (fun r hr => dlet_ot (Or.inr hr))
  obtain ⟨a, b, c⟩ := h.2.1 q hq
  rw [dlet_1, dlet_1, dlet_2, dlet_2, dlet_3, dlet_3]
  unfold upZ
  refine ⟨?_, ?_, ?_⟩
  · by_cases z : q = k
    · rw [if_pos z, if_pos z]
    · rw [if_neg z, if_neg z]; exact a
  · by_cases z : q = k
    · rw [if_pos z, if_pos z]
    · rw [if_neg z, if_neg z]; exact b
  · by_cases z : q = k
    · rw [if_pos z, if_pos z]
    · rw [if_neg z, if_neg z]; exact c
theorem le_d0 (h : LE d e) {k : Nat} (hk : k = 2 ∨ k = 3) {m : Int} : LE (dput d 0 k m) (dput e 0 k m) := by
  refine le_row h ⟨?_, ?_⟩ (fun j hj => ?_) (fun q hq => h.2.1 q hq) (fun r hr => dput_ne (by omega)) (fun r hr => dput_ne (by omega))
  · rw [dput_self, upZ_ne _ _ (by omega)]
  · rw [dput_self, upZ_ne _ _ (by omega)]
  · rw [dput_self, dput_self]
    unfold upZ
    by_cases z : j = k
    · rw [if_pos z, if_pos z]
    · rw [if_neg z, if_neg z]; exact h.1 j hj
end Nx
/-- the state behind an action that makes the sheet e -/
def acted (σ : Sg) (e : Nat → Nat → Int) : Sg := (e, (if 14 < σ.2.1 + 1 then 14 else σ.2.1 + 1), (fun i => if i = 0 then σ.1 else σ.2.2.1 (i - 1)), σ.2.2.2.1, σ.2.2.2.2)
def undone (σ : Sg) : Sg := (σ.2.2.1 0, σ.2.1 - 1, (fun i => σ.2.2.1 (i + 1)), σ.2.2.2.1, σ.2.2.2.2)
section Ob3
variable {T : zT} {hz h h' : zH} {b : Nat} {σ τ : Sg}
/-- an action remembers first: then only the sheet is to be made -/
theorem ob_rem (O : Ob T hz h b σ) : ∃ h' n d, FX0_remember T (b + 55) (b + 4) h = some h' ∧ CsAt h b n ∧ CsAt h' b n ∧ ShAt T h (b + 4) d ∧ ShAt T h' (b + 4) d ∧ LE σ.1 d ∧ ∀ (h2 : zH) (d2 e : Nat → Nat → Int), ShAt T h2 (b + 4) d2 → offS (b + 4) h' h2 → OkD e → LE e d2 → Ob T hz h2 b (acted σ e) ∧ CsAt h2 b n := by
  obtain ⟨n, tx, hn, d, nxt, dd, fl, ds, S, ⟨hO, hl⟩, ⟨c1, c2, c3, c4⟩, hh, hf⟩ := O
  obtain ⟨h', d', e1, H1, s1, f1⟩ := remember_eq S.hs0 c1 c2 c3 c4 S.sh0 (by omega)
  have S1 := S.hist H1 f1
  refine ⟨h', n, d, e1, S.cs0, S1.cs0, S.sh0, S1.sh0, hl, fun h2 d2 e M f2 hOe hle => ?_⟩
  have S2 := S1.pres M f2
  refine ⟨⟨n, tx, hn, d2, (nxt + 1) % 14, ddup dd nxt.toNat d', upZ fl nxt.toNat 1, ds, S2, ⟨hOe, hle⟩, ?_, fun i hi => ?_, hf⟩, S2.cs0⟩
  · show 0 ≤ (if 14 < σ.2.1 + 1 then 14 else σ.2.1 + 1) ∧ (if 14 < σ.2.1 + 1 then 14 else σ.2.1 + 1) ≤ 14 ∧ _
    refine ⟨?_, ?_, by omega, by omega⟩ <;> split <;> omega
  · have hi' : (i : Int) < (if 14 < σ.2.1 + 1 then 14 else σ.2.1 + 1) := hi
    by_cases ci : i = 0
    · have es : sln ((nxt + 1) % 14) i = nxt.toNat := by unfold sln; omega
      rw [es, upZ_self]
      unfold ddup
      rw [if_pos rfl]
      show (1 : Int) = 1 ∧ OkD (if i = 0 then σ.1 else σ.2.2.1 (i - 1)) ∧ LE (if i = 0 then σ.1 else σ.2.2.1 (i - 1)) d'
      rw [if_pos ci]
      exact ⟨rfl, hO, hl.trans (LE.same s1 (hl.ok hO))⟩
    · have hi2 : ((i - 1 : Nat) : Int) < σ.2.1 := by
        revert hi'
        split <;> omega
      have hi3 : i < 14 := by
        revert hi'
        split <;> omega
      have es : sln ((nxt + 1) % 14) i = sln nxt (i - 1) := by unfold sln; omega
      have en : sln nxt (i - 1) ≠ nxt.toNat := by unfold sln; omega
      obtain ⟨a1, a2, a3⟩ := hh (i - 1) hi2
      rw [es, upZ_ne _ _ en]
      unfold ddup
      rw [if_neg en]
      show _ ∧ OkD (if i = 0 then σ.1 else σ.2.2.1 (i - 1)) ∧ LE (if i = 0 then σ.1 else σ.2.2.1 (i - 1)) _
      rw [if_neg ci]
      exact ⟨a1, a2, a3⟩
theorem k_write (O : Ob T hz h b σ) {x y s k w : Int} (g : inG σ.1 x y) (gs : 0 ≤ s ∧ s ≤ 26) (gk : 0 ≤ k ∧ k ≤ 3) (gw : 0 ≤ w ∧ w ≤ 8) (gr : cn σ.1 x y < 2) : Rq T hz b (FL_tryWrite T b (iZ x) (iZ y) (iZ s) (iZ k) (iZ w) h) (cn σ.1 x y) (acted σ (dadd σ.1 x y s k w)) := by
  have hO := O.ok
  obtain ⟨h1, n, d, e1, C0, C1, M0, M1, hl, fin⟩ := ob_rem O
  have hO' := hl.ok hO
  have g' := (hl.ig x y).mpr g
  have gr' : cn d x y < 2 := by rw [hl.cc g]; exact gr
  obtain ⟨h2, e2, M2, f2⟩ := addMark_eq (s := s) (k := k) (w := w) M1 hO' g' gr'
  obtain ⟨O2, -⟩ := fin h2 _ _ M2 f2 (OkD_add hO g gr gs.1 gs.2 gk.1 gk.2 gw.1 gw.2) (le_add hl hO g gr)
  unfold FL_tryWrite
  refine rq_ok (h' := h2) ?_ O2
  unfold FX6_write
  rw [cs_zo C0, zsn, chkCell_t C0 M0 hO' g', zbx_ok, q0, q26, chkArg_t (by omega) (by omega) gs, zbx_ok, q3, chkArg_t (by omega) (by omega) gk, zbx_ok, q8, chkArg_t (by omega) (by omega) gw, zbx_ok, cs_r3 C0, zsn, hasRoom_t M0 hO' g' gr', zsn, if_neg (by decide), cs_r6 C0, zsn, zsn, e1, zsn, cs_r3 C1, zsn, marksIn_t M1 hO' g', zsn, zsn, e2, zsn, hl.cc g]
theorem k_write_full (O : Ob T hz h b σ) {x y s k w : Int} (g : inG σ.1 x y) (gs : 0 ≤ s ∧ s ≤ 26) (gk : 0 ≤ k ∧ k ≤ 3) (gw : 0 ≤ w ∧ w ≤ 8) (gr : ¬ cn σ.1 x y < 2) : Rq T hz b (FL_tryWrite T b (iZ x) (iZ y) (iZ s) (iZ k) (iZ w) h) (-9999003) σ := by
  have O9 := O
  obtain ⟨n, tx, hn, d, nxt, dd, fl, ds, S, ⟨hO, hl⟩, R⟩ := O
  have hO' := hl.ok hO
  have g' := (hl.ig x y).mpr g
  have g9 := hO.g9 g
  unfold FL_tryWrite
  refine rq_ex (E := "java/lang/IllegalStateException") (h' := h) ?_ (by rw [if_neg (by decide), if_neg (by decide), if_pos rfl, qI3]) O9
  unfold FX6_write
  rw [cs_zo S.cs0, zsn, chkCell_t S.cs0 S.sh0 hO' g', zbx_ok, q0, q26, chkArg_t (by omega) (by omega) gs, zbx_ok, q3, chkArg_t (by omega) (by omega) gk, zbx_ok, q8, chkArg_t (by omega) (by omega) gw, zbx_ok, cs_r3 S.cs0, zsn, hasRoom_f S.sh0 hO' (by omega) (by omega) (by omega) (by omega) (fun z => gr (by rw [← hl.cc g]; exact z.2)), zsn, if_pos rfl]
theorem k_write_c (O : Ob T hz h b σ) {x y : Int} {s k w : Int32} (x1 : -2147483648 ≤ x) (x2 : x < 2147483648) (y1 : -2147483648 ≤ y) (y2 : y < 2147483648) (g : ¬ inG σ.1 x y) : Rq T hz b (FL_tryWrite T b (iZ x) (iZ y) s k w h) (-9999001) σ := by
  have O9 := O
  obtain ⟨n, tx, hn, d, nxt, dd, fl, ds, S, ⟨hO, hl⟩, R⟩ := O
  unfold FL_tryWrite
  refine rq_ex (E := "java/lang/IndexOutOfBoundsException") (h' := h) ?_ (by rw [if_pos rfl, qI1]) O9
  unfold FX6_write
  rw [cs_zo S.cs0, zsn, chkCell_f S.cs0 S.sh0 (hl.ok hO) x1 x2 y1 y2 (fun z => g ((hl.ig x y).mp z)), zbx_er]
theorem k_write_a (O : Ob T hz h b σ) {s k w : Int} (g : inG σ.1 0 0) (s1 : 0 ≤ s) (s2 : s ≤ 27) (k1 : 0 ≤ k) (k2 : k ≤ 4) (w1 : 0 ≤ w) (w2 : w ≤ 9) (ng : s = 27 ∨ k = 4 ∨ w = 9) : Rq T hz b (FL_tryWrite T b (iZ 0) (iZ 0) (iZ s) (iZ k) (iZ w) h) (-9999002) σ := by
  have O9 := O
  obtain ⟨n, tx, hn, d, nxt, dd, fl, ds, S, ⟨hO, hl⟩, R⟩ := O
  have hO' := hl.ok hO
  have g' := (hl.ig 0 0).mpr g
  unfold FL_tryWrite
  refine rq_ex (E := "java/lang/IllegalArgumentException") (h' := h) ?_ (by rw [if_neg (by decide), if_pos rfl, qI2]) O9
  unfold FX6_write
  rw [cs_zo S.cs0, zsn, chkCell_t S.cs0 S.sh0 hO' g', zbx_ok, q0, q26]
  by_cases cs : s = 27
  · rw [chkArg_f (by omega) (by omega) (by omega) (by omega) (by omega) (by omega) (by omega), zbx_er]
  rw [chkArg_t (by omega) (by omega) (by omega), zbx_ok, q3]
  by_cases ck : k = 4
  · rw [chkArg_f (by omega) (by omega) (by omega) (by omega) (by omega) (by omega) (by omega), zbx_er]
  rw [chkArg_t (by omega) (by omega) (by omega), zbx_ok, q8, chkArg_f (by omega) (by omega) (by omega) (by omega) (by omega) (by omega) (by omega), zbx_er]
theorem k_erase (O : Ob T hz h b σ) {x y i : Int} (g : inG σ.1 x y) (j1 : 0 ≤ i) (j2 : i < cn σ.1 x y) : Rq T hz b (FL_tryErase T b (iZ x) (iZ y) (iZ i) h) (σ.1 5 (pl x y i)) (acted σ (drem σ.1 x y i)) := by
  have hO := O.ok
  have g9 := hO.g9 g
  have hcn := hO.cn g
  obtain ⟨h1, n, d, e1, C0, C1, M0, M1, hl, fin⟩ := ob_rem O
  have hO' := hl.ok hO
  have g' := (hl.ig x y).mpr g
  have j2' : i < cn d x y := by rw [hl.cc g]; exact j2
  obtain ⟨h2, e2, M2, f2⟩ := removeMark_eq (i := i) M1 hO' g' j1 j2'
  obtain ⟨O2, -⟩ := fin h2 _ _ M2 f2 (OkD_rem hO g j1 j2) (le_rem hl hO g j1 j2)
  have t5 : FX1_at T (b + 4 + 9) (iZ (2 * (9 * x + y) + i)) h1 = some (iZ (d 5 (pl x y i))) := at_in (sh_n5 M1) (by omega) (by omega) (by omega)
  rw [(hl.mm g j1 j2).1] at t5
  unfold FL_tryErase
  refine rq_ok (h' := h2) ?_ O2
  unfold FX6_erase
  rw [cs_zo C0, zsn, chkMark_t C0 M0 hO' g' j1 j2', zbx_ok, cs_r6 C0, zsn, cs_r3 C0, zsn, e1, zsn, cs_r3 C1, zsn, sh_r5 M1, zsn, placeOf_eq, zsn, t5, zsn, zsn, e2, zsn]
theorem k_erase_no (O : Ob T hz h b σ) {x y i : Int} (x1 : -2147483648 ≤ x) (x2 : x < 2147483648) (y1 : -2147483648 ≤ y) (y2 : y < 2147483648) (i1 : -2147483648 ≤ i) (i2 : i < 2147483648) (g : ¬ (inG σ.1 x y ∧ 0 ≤ i ∧ i < cn σ.1 x y)) : Rq T hz b (FL_tryErase T b (iZ x) (iZ y) (iZ i) h) (-9999001) σ := by
  have O9 := O
  obtain ⟨n, tx, hn, d, nxt, dd, fl, ds, S, ⟨hO, hl⟩, R⟩ := O
  unfold FL_tryErase
  refine rq_ex (E := "java/lang/IndexOutOfBoundsException") (h' := h) ?_ (by rw [if_pos rfl, qI1]) O9
  unfold FX6_erase
  rw [cs_zo S.cs0, zsn, chkMark_f S.cs0 S.sh0 (hl.ok hO) x1 x2 y1 y2 i1 i2 (fun z => g (by have g0 := (hl.ig x y).mp z.1; rw [hl.cc g0] at z; exact ⟨g0, z.2⟩)), zbx_er]
def kv (k : Int) : Int := if 0 ≤ k ∧ k < 2 then k else -9
theorem k_decide (O : Ob T hz h b σ) {x y i k : Int} (g : inG σ.1 x y) (j1 : 0 ≤ i) (j2 : i < cn σ.1 x y) (gk : 0 ≤ k ∧ k ≤ 2) (gd : ¬ ((0 ≤ k ∧ k < 2) ∧ dec σ.1 x y (1 - i) = k)) : Rq T hz b (FL_tryDecide T b (iZ x) (iZ y) (iZ i) (iZ k) h) (gsum (ddec σ.1 x y i (kv k)) (dbt (ddec σ.1 x y i (kv k)))) (acted σ (ddec σ.1 x y i (kv k))) := by
  have hO := O.ok
  have g9 := hO.g9 g
  have hcn := hO.cn g
  obtain ⟨h1, n, d, e1, C0, C1, M0, M1, hl, fin⟩ := ob_rem O
  have hO' := hl.ok hO
  have g' := (hl.ig x y).mpr g
  have j2' : i < cn d x y := by rw [hl.cc g]; exact j2
  have ed : dec d x y (1 - i) = dec σ.1 x y (1 - i) := le_dec hl g (by omega)
  have hOn : OkD (ddec σ.1 x y i (kv k)) := OkD_dec hO g j1 j2 (by
    unfold kv
    by_cases c : 0 ≤ k ∧ k < 2
    · rw [if_pos c]; exact Or.inr ⟨by omega, fun z => gd ⟨c, z⟩⟩
    · rw [if_neg c]; exact Or.inl rfl)
  have hln : LE (ddec σ.1 x y i (kv k)) (ddec d x y i (kv k)) := le_dc hl
  obtain ⟨h2, e2, M2, f2⟩ := putDecision_eq M1 hO' g' j1 j2' (show -2147483648 ≤ k by omega) (show k < 2147483648 by omega)
  have M2' : ShAt T h2 (b + 4) (ddec d x y i (kv k)) := M2
  obtain ⟨O2, C2⟩ := fin h2 _ _ M2' f2 hOn hln
  have e3 : FX3_countDoubtful T (b + 4) h2 = some (iZ (gsum (ddec σ.1 x y i (kv k)) (dbt (ddec σ.1 x y i (kv k))))) := by rw [countDoubtful_eq M2' (hln.ok hOn), le_dbt hln hOn]
  unfold FL_tryDecide
  refine rq_ok (h' := h2) ?_ O2
  unfold FX6_decide
  rw [cs_zo C0, zsn, chkMark_t C0 M0 hO' g' j1 j2', zbx_ok, q0, q2, chkArg_t (by omega) (by omega) gk, zbx_ok, cs_r3 C0, zsn, other_eq M0 hO' g' j1 (by omega) (by omega) (by omega), zsn, if_neg (show ¬ ((0 ≤ k ∧ k < 2) ∧ dec d x y (1 - i) = k) by rw [ed]; exact gd), if_pos rfl, cs_r6 C0, zsn, zsn, e1, zsn, cs_r3 C1, zsn, e2, zsn, cs_r3 C2, zsn, e3, zsn]
theorem k_decide_no (O : Ob T hz h b σ) {x y i : Int} {k : Int32} (x1 : -2147483648 ≤ x) (x2 : x < 2147483648) (y1 : -2147483648 ≤ y) (y2 : y < 2147483648) (i1 : -2147483648 ≤ i) (i2 : i < 2147483648) (g : ¬ (inG σ.1 x y ∧ 0 ≤ i ∧ i < cn σ.1 x y)) : Rq T hz b (FL_tryDecide T b (iZ x) (iZ y) (iZ i) k h) (-9999001) σ := by
  have O9 := O
  obtain ⟨n, tx, hn, d, nxt, dd, fl, ds, S, ⟨hO, hl⟩, R⟩ := O
  unfold FL_tryDecide
  refine rq_ex (E := "java/lang/IndexOutOfBoundsException") (h' := h) ?_ (by rw [if_pos rfl, qI1]) O9
  unfold FX6_decide
  rw [cs_zo S.cs0, zsn, chkMark_f S.cs0 S.sh0 (hl.ok hO) x1 x2 y1 y2 i1 i2 (fun z => g (by have g0 := (hl.ig x y).mp z.1; rw [hl.cc g0] at z; exact ⟨g0, z.2⟩)), zbx_er]
theorem k_decide_st (O : Ob T hz h b σ) {x y i k : Int} (g : inG σ.1 x y) (j1 : 0 ≤ i) (j2 : i < cn σ.1 x y) (gk : 0 ≤ k ∧ k ≤ 2) (gd : (0 ≤ k ∧ k < 2) ∧ dec σ.1 x y (1 - i) = k) : Rq T hz b (FL_tryDecide T b (iZ x) (iZ y) (iZ i) (iZ k) h) (-9999003) σ := by
  have O9 := O
  obtain ⟨n, tx, hn, d, nxt, dd, fl, ds, S, ⟨hO, hl⟩, R⟩ := O
  have hO' := hl.ok hO
  have hcn := hO.cn g
  have g' := (hl.ig x y).mpr g
  have j2' : i < cn d x y := by rw [hl.cc g]; exact j2
  have ed : dec d x y (1 - i) = dec σ.1 x y (1 - i) := le_dec hl g (by omega)
  unfold FL_tryDecide
  refine rq_ex (E := "java/lang/IllegalStateException") (h' := h) ?_ (by rw [if_neg (by decide), if_neg (by decide), if_pos rfl, qI3]) O9
  unfold FX6_decide
  rw [cs_zo S.cs0, zsn, chkMark_t S.cs0 S.sh0 hO' g' j1 j2', zbx_ok, q0, q2, chkArg_t (by omega) (by omega) gk, zbx_ok, cs_r3 S.cs0, zsn, other_eq S.sh0 hO' g' j1 (by omega) (by omega) (by omega), zsn, if_pos (show (0 ≤ k ∧ k < 2) ∧ dec d x y (1 - i) = k by rw [ed]; exact gd), if_neg (by decide)]
theorem k_pen (O : Ob T hz h b σ) {L : Nat} (hL : L < 2) {u s w : Int} (gu : 0 ≤ u ∧ u ≤ 3) (gs : 0 ≤ s ∧ s ≤ 8) (gw : 0 ≤ w ∧ w ≤ 1) : Rq T hz b (FL_tryPen T b (iZ L) (iZ u) (iZ s) (iZ w) h) (gsum (dlet σ.1 L u s w) (dbt (dlet σ.1 L u s w))) (acted σ (dlet σ.1 L u s w)) := by
  have hO := O.ok
  obtain ⟨h1, n, d, e1, C0, C1, M0, M1, hl, fin⟩ := ob_rem O
  have hOn : OkD (dlet σ.1 L u s w) := OkD_let hO ⟨gu.1, gu.2, gs.1, gs.2, gw.1, gw.2⟩
  have hln : LE (dlet σ.1 L u s w) (dlet d L u s w) := le_let hl
  obtain ⟨h2, e2, M2, f2⟩ := putLetter_eq (k := (L : Int)) (u := u) (v := s) (w := w) M1 (by omega) (by omega)
  have M2' : ShAt T h2 (b + 4) (dlet d L u s w) := M2
  obtain ⟨O2, C2⟩ := fin h2 _ _ M2' f2 hOn hln
  have e3 : FX3_countDoubtful T (b + 4) h2 = some (iZ (gsum (dlet σ.1 L u s w) (dbt (dlet σ.1 L u s w)))) := by rw [countDoubtful_eq M2' (hln.ok hOn), le_dbt hln hOn]
  unfold FL_tryPen
  refine rq_ok (h' := h2) ?_ O2
  unfold FX6_setLetter
  rw [cs_zo C0, zsn, chkLet_t (by omega) (by omega), zbx_ok, q0, q3, chkArg_t (by omega) (by omega) gu, zbx_ok, q8, chkArg_t (by omega) (by omega) gs, zbx_ok, q1, chkArg_t (by omega) (by omega) gw, zbx_ok, cs_r6 C0, zsn, cs_r3 C0, zsn, e1, zsn, cs_r3 C1, zsn, e2, zsn, cs_r3 C2, zsn, e3, zsn]
theorem k_pen_k (O : Ob T hz h b σ) {u s w : Int32} : Rq T hz b (FL_tryPen T b (iZ 2) u s w h) (-9999001) σ := by
  have O9 := O
  obtain ⟨n, tx, hn, d, nxt, dd, fl, ds, S, R⟩ := O
  unfold FL_tryPen
  refine rq_ex (E := "java/lang/IndexOutOfBoundsException") (h' := h) ?_ (by rw [if_pos rfl, qI1]) O9
  unfold FX6_setLetter
  rw [cs_zo S.cs0, zsn, chkLet_f (by omega) (by omega) (by omega), zbx_er]
theorem k_pen_u (O : Ob T hz h b σ) : Rq T hz b (FL_tryPen T b (iZ 0) (iZ 4) (iZ 0) (iZ 0) h) (-9999002) σ := by
  have O9 := O
  obtain ⟨n, tx, hn, d, nxt, dd, fl, ds, S, R⟩ := O
  unfold FL_tryPen
  refine rq_ex (E := "java/lang/IllegalArgumentException") (h' := h) ?_ (by rw [if_neg (by decide), if_pos rfl, qI2]) O9
  unfold FX6_setLetter
  rw [cs_zo S.cs0, zsn, chkLet_t (by omega) (by omega), zbx_ok, q0, q3, chkArg_f (by omega) (by omega) (by omega) (by omega) (by omega) (by omega) (by omega), zbx_er]
theorem k_pen_w (O : Ob T hz h b σ) : Rq T hz b (FL_tryPen T b (iZ 1) (iZ 0) (iZ 0) (iZ 2) h) (-9999002) σ := by
  have O9 := O
  obtain ⟨n, tx, hn, d, nxt, dd, fl, ds, S, R⟩ := O
  unfold FL_tryPen
  refine rq_ex (E := "java/lang/IllegalArgumentException") (h' := h) ?_ (by rw [if_neg (by decide), if_pos rfl, qI2]) O9
  unfold FX6_setLetter
  rw [cs_zo S.cs0, zsn, chkLet_t (by omega) (by omega), zbx_ok, q0, q3, chkArg_t (by omega) (by omega) (by omega), zbx_ok, q8, chkArg_t (by omega) (by omega) (by omega), zbx_ok, q1, chkArg_f (by omega) (by omega) (by omega) (by omega) (by omega) (by omega) (by omega), zbx_er]
theorem k_margin (O : Ob T hz h b σ) {m : Int} (gm : 0 ≤ m ∧ m ≤ 9) : Rq T hz b (FL_tryMargin T b (iZ m) h) (σ.1 0 2) (acted σ (dput σ.1 0 2 m)) := by
  have hO := O.ok
  obtain ⟨h1, n, d, e1, C0, C1, M0, M1, hl, fin⟩ := ob_rem O
  obtain ⟨h2, e2, M2, f2⟩ := sh_set0 M1 (k := 2) (by omega) m
  obtain ⟨O2, C2⟩ := fin h2 _ _ M2 f2 (OkD_margin hO gm.1 gm.2) (le_d0 hl (Or.inl rfl))
  unfold FL_tryMargin
  refine rq_ok (h' := h2) ?_ O2
  unfold FX6_setMargin
  rw [cs_zo C0, zsn, q0, q9, chkArg_t (by omega) (by omega) gm, zbx_ok, cs_r6 C0, zsn, cs_r3 C0, zsn, e1, zsn, cs_r3 C1, zsn, sh_g2 M1, zsn, zsn, e2, zsn, hl.1 2 (by omega)]
theorem k_margin_no (O : Ob T hz h b σ) : Rq T hz b (FL_tryMargin T b (iZ 10) h) (-9999002) σ := by
  have O9 := O
  obtain ⟨n, tx, hn, d, nxt, dd, fl, ds, S, R⟩ := O
  unfold FL_tryMargin
  refine rq_ex (E := "java/lang/IllegalArgumentException") (h' := h) ?_ (by rw [if_pos rfl, qI2]) O9
  unfold FX6_setMargin
  rw [cs_zo S.cs0, zsn, q0, q9, chkArg_f (by omega) (by omega) (by omega) (by omega) (by omega) (by omega) (by omega), zbx_er]
theorem k_gap (O : Ob T hz h b σ) {m : Int} (gm : 1 ≤ m ∧ m ≤ 3) : Rq T hz b (FL_tryGap T b (iZ m) h) (σ.1 0 3) (acted σ (dput σ.1 0 3 m)) := by
  have hO := O.ok
  obtain ⟨h1, n, d, e1, C0, C1, M0, M1, hl, fin⟩ := ob_rem O
  obtain ⟨h2, e2, M2, f2⟩ := sh_set0 M1 (k := 3) (by omega) m
  obtain ⟨O2, C2⟩ := fin h2 _ _ M2 f2 (OkD_gap hO gm.1 gm.2) (le_d0 hl (Or.inr rfl))
  unfold FL_tryGap
  refine rq_ok (h' := h2) ?_ O2
  unfold FX6_setGap
  rw [cs_zo C0, zsn, q1, q3, chkArg_t (by omega) (by omega) gm, zbx_ok, cs_r6 C0, zsn, cs_r3 C0, zsn, e1, zsn, cs_r3 C1, zsn, sh_g3 M1, zsn, zsn, e2, zsn, hl.1 3 (by omega)]
theorem k_gap_no (O : Ob T hz h b σ) : Rq T hz b (FL_tryGap T b (iZ 0) h) (-9999002) σ := by
  have O9 := O
  obtain ⟨n, tx, hn, d, nxt, dd, fl, ds, S, R⟩ := O
  unfold FL_tryGap
  refine rq_ex (E := "java/lang/IllegalArgumentException") (h' := h) ?_ (by rw [if_pos rfl, qI2]) O9
  unfold FX6_setGap
  rw [cs_zo S.cs0, zsn, q1, q3, chkArg_f (by omega) (by omega) (by omega) (by omega) (by omega) (by omega) (by omega), zbx_er]
theorem k_undo (O : Ob T hz h b σ) (hc : 0 < σ.2.1) : Rq T hz b (FL_tryUndo T b h) (σ.2.1 - 1) (undone σ) := by
  obtain ⟨n, tx, hn, d, nxt, dd, fl, ds, S, ⟨hO, hl⟩, ⟨c1, c2, c3, c4⟩, hh, hf⟩ := O
  have z0 := hh 0 hc
  have es : ((nxt + 13) % 14).toNat = sln nxt 0 := by unfold sln; omega
  obtain ⟨h1, d1, e1, H1, M1, s1, f1⟩ := takeBack_eq S.hs0 hc c2 c3 c4 (by rw [es]; exact z0.1) S.sh0 (by omega)
  have S1 := S.back H1 M1 f1
  rw [es] at s1
  unfold FL_tryUndo
  refine rq_ok (h' := h1) ?_ ⟨n, tx, hn, d1, (nxt + 13) % 14, dd, fl, ds, S1, ⟨z0.2.1, z0.2.2.trans (LE.same s1 (z0.2.2.ok z0.2.1))⟩, ⟨by show 0 ≤ σ.2.1 - 1; omega, by show σ.2.1 - 1 ≤ 14; omega, by omega, by omega⟩, fun i hi => ?_, hf⟩
  · unfold FX6_undo
    rw [cs_zo S.cs0, zsn, cs_r6 S.cs0, zsn, hs_g0 S.hs0, zsn, q0, if_neg (by rw [iZ_eq (by omega) (by omega) (by omega) (by omega)]; omega), zsn, cs_r3 S.cs0, zsn, e1, zsn, cs_r6 S1.cs0, zsn, hs_g0 S1.hs0, zsn]
  · have hi' : (i : Int) < σ.2.1 - 1 := hi
    have e2 : sln ((nxt + 13) % 14) i = sln nxt (i + 1) := by unfold sln; omega
    rw [e2]
    exact hh (i + 1) (by omega)
theorem k_undo_no (O : Ob T hz h b σ) (hc : σ.2.1 = 0) : Rq T hz b (FL_tryUndo T b h) (-9999003) σ := by
  have O9 := O
  obtain ⟨n, tx, hn, d, nxt, dd, fl, ds, S, R⟩ := O
  unfold FL_tryUndo
  refine rq_ex (E := "java/lang/IllegalStateException") (h' := h) ?_ (by rw [if_pos rfl, qI3]) O9
  unfold FX6_undo
  rw [cs_zo S.cs0, zsn, cs_r6 S.cs0, zsn, hs_g0 S.hs0, zsn, q0, if_pos (by rw [hc])]
end Ob3
