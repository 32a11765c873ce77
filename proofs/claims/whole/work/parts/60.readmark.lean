/-! the reference reads a mark -/
def RM2 (T : zT) (a0 : Nat) (x4 x11 : Int32) (h12 : zH) : Option (Int32 × zH) := zJ (fun (x17 : Int32) (x18 : Int32) (h19 : zH) => zJ (fun (x21 : Int32) (x22 : Int32) (h23 : zH) => if x22 = (-9 : Int32) then (some (0, h23)) else ((zgr h23 a0 7 4).bind fun x25 => (FX7_cellAt T x4 x11 h23).bind fun x27 => zb2 (FX7_writeOn T x25 x27 x17 x21 x22 h23) fun x29 h30 => some (1, h30))) (fun J24 => if x18 = (-9 : Int32) then (J24 x18 (-9 : Int32) h19) else (zb2 (FX7_digit T a0 0 8 h19) fun x32 h33 => J24 x18 x32 h33))) (fun J20 => zb2 (FX7_readSign T a0 h12) fun x35 h36 => if x35 = (-9 : Int32) then (J20 x35 (-9 : Int32) h36) else (zb2 (FX7_digit T a0 0 3 h36) fun x38 h39 => J20 x35 x38 h39))
def RM1 (T : zT) (a0 : Nat) (x4 : Int32) (h5 : zH) : Option (Int32 × zH) := (zgr h5 a0 7 4).bind fun x8 => (zai T h5 x8 1).bind fun x9 => zb2 (FX7_digit T a0 0 (x9 - 1) h5) fun x11 h12 => if x11 = (-9 : Int32) then (some (0, h12)) else ((zgr h12 a0 7 4).bind fun x13 => (FX7_cellAt T x4 x11 h12).bind fun x15 => (zai T h12 x13 x15).bind fun x16 => if x16 = 2 then ((zgi h12 a0 7 3).bind fun x40 => (zpv h12 a0 7 3 (.int (x40 - 1))).bind fun h41 => some (0, h41)) else RM2 T a0 x4 x11 h12)
section Rm7
variable {T : zT} {h : zH} {b o : Nat} {n : Int} {tx : Nat → Int} {d : Nat → Nat → Int} {cnt nxt : Int} {dd : Nat → Nat → Nat → Int} {fl : Nat → Int} {ds : Nat → Nat → Nat → Int} {fs v tx7 r D kp kb : Nat → Int} {x : Int64}
variable {h' : zH}
theorem rm_form (a0 : Nat) : FX7_readMark T a0 h = (zo h a0 7).bind fun _ => (zgr h a0 7 4).bind fun x1 => (zai T h x1 0).bind fun x2 => zb2 (FX7_digit T a0 0 (x2 - 1) h) fun x4 h5 => if x4 = (-9 : Int32) then (some (0, h5)) else ((FX7_hasRoom T a0 x4 h5).bind fun x7 => if x7 = 0 then ((zgi h5 a0 7 3).bind fun x42 => (zpv h5 a0 7 3 (.int (x42 - 1))).bind fun h43 => some (0, h43)) else RM1 T a0 x4 h5) := rfl
theorem St.read7 (S : St T h b o n tx d cnt nxt dd fl ds fs v tx7 r D kp kb x) {r' : Nat → Int} (M : Arr T h' (b + 354 + 2) 739 r') (f : ∀ q, q ≠ b + 354 + 2 → h' q = h q) : St T h' b o n tx d cnt nxt dd fl ds fs v tx7 r D kp kb x := S.sc (i := 7) (by omega) ⟨_, M⟩ (fun q hq => f q (by rw [show slo 7 = 356 from rfl, show shi 7 = 356 from rfl] at hq; omega))
theorem St.mo' (S : St T h b o n tx d cnt nxt dd fl ds fs v tx7 r D kp kb x) {k : Nat} (hk : k = 3) (y : Int) : ∃ h', zpv h (b + 354) 7 3 (.int (iZ y)) = some h' ∧ St T h' b o n tx d cnt nxt dd fl ds fs (upZ v 3 y) tx7 r D kp kb x ∧ ∀ q, q ≠ b + 354 → h' q = h q := by
  obtain ⟨h1, e1, M1, f1⟩ := mo_set S.mo0 (k := 3) (by omega) y
  exact ⟨h1, e1, S.mo M1 f1, f1⟩
theorem wide7 (S : St T h b o n tx d cnt nxt dd fl ds fs v tx7 r D kp kb x) {e : Nat → Nat → Int} {rt : Nat → Int} (A : Arr T h (b + 354 + 2) 739 rt) (Q : Pg e rt) (hO : OkD e) : zai T h (b + 354 + 2) (iZ 0) = some (iZ (e 0 0)) ∧ zai T h (b + 354 + 2) (iZ 1) = some (iZ (e 0 1)) := by
  refine ⟨?_, ?_⟩
  · rw [zai_p A (by omega) (by omega), ← Q.1.w]; rfl
  · rw [zai_p A (by omega) (by omega), ← Q.1.v]; rfl
/-- no column -/
theorem rm1_no (S : St T h b o n tx d cnt nxt dd fl ds fs v tx7 r D kp kb x) (hT : ∀ j : Nat, (j : Int) < n → tx7 j = tx j ∧ 0 ≤ tx j ∧ tx j ≤ 255) (hN : v 2 = n) (n2 : n ≤ 120) {i : Int} (i1 : 0 ≤ i) (i2 : i ≤ n) (hI : v 3 = i) {e : Nat → Nat → Int} {rt : Nat → Int} (A : Arr T h (b + 354 + 2) 739 rt) (Q : Pg e rt) (hO : OkD e) (g : ¬ (i < n ∧ colR e (dg (tx i.toNat)))) : ∃ h' v', FX7_readMark T (b + 354) h = some (iZ 0, h') ∧ St T h' b o n tx d cnt nxt dd fl ds fs v' tx7 r D kp kb x ∧ v' 3 = i ∧ (∀ j, j ≠ 3 → v' j = v j) ∧ Arr T h' (b + 354 + 2) 739 rt := by
  have w0 := (wide7 S A Q hO).1
  have ho := hO.1
  have hd := dg_in (c := tx i.toNat)
  rw [rm_form, mo_zo S.mo0, zsn, mo_r4 S.mo0, zsn, q0, w0, zsn, q1, iZ_sub, qm9]
  by_cases gd : i < n ∧ 0 ≤ dg (tx i.toNat) ∧ dg (tx i.toNat) ≤ e 0 0 - 1
  · obtain ⟨k1, e1, K1, p1⟩ := digit_t S hT hN n2 i1 i2 hI (lo := 0) (hi := e 0 0 - 1) (by omega) (by omega) (by omega) (by omega) gd
    have A1 : Arr T k1 (b + 354 + 2) 739 rt := A.kept (p1 _ (by omega))
    rcases room7_eq (mo_ex K1.mo0) (mo_r4 K1.mo0) A1 Q.1 hO (x := dg (tx i.toNat)) (by omega) (by omega) with ⟨w, w2⟩ | ⟨w, w2⟩
    · exact absurd ⟨gd.1, w⟩ g
    · obtain ⟨k2, e2, M2, f2⟩ := mo_set K1.mo0 (k := 3) (by omega) i
      refine ⟨k2, _, ?_, K1.mo M2 f2, upZ_self _ _ _, fun j hj => (upZ_ne _ _ hj).trans (upZ_ne _ _ hj), A1.kept (f2 _ (by omega))⟩
      rw [e1, zb2n, if_neg (by rw [iZ_eq (by omega) (by omega) (by omega) (by omega)]; omega), w2, zsn, if_pos rfl, mo_g3 K1.mo0, upZ_self, zsn, iZ_sub, show i + 1 - 1 = i from by omega, e2, zsn]
  · obtain ⟨k1, e1, K1, p1⟩ := digit_f S hT hN n2 i1 i2 hI (lo := 0) (hi := e 0 0 - 1) (by omega) (by omega) (by omega) (by omega) gd
    refine ⟨k1, _, ?_, K1, upZ_self _ _ _, fun j hj => upZ_ne _ _ hj, A.kept (p1 _ (by omega))⟩
    rw [e1, zb2n, if_pos rfl]
/-- a column -/
theorem rm1_go (S : St T h b o n tx d cnt nxt dd fl ds fs v tx7 r D kp kb x) (hT : ∀ j : Nat, (j : Int) < n → tx7 j = tx j ∧ 0 ≤ tx j ∧ tx j ≤ 255) (hN : v 2 = n) (n2 : n ≤ 120) {i : Int} (i1 : 0 ≤ i) (i2 : i ≤ n) (hI : v 3 = i) {e : Nat → Nat → Int} {rt : Nat → Int} (A : Arr T h (b + 354 + 2) 739 rt) (Q : Pg e rt) (hO : OkD e) (g : i < n ∧ colR e (dg (tx i.toNat))) : ∃ h', FX7_readMark T (b + 354) h = RM1 T (b + 354) (iZ (dg (tx i.toNat))) h' ∧ St T h' b o n tx d cnt nxt dd fl ds fs (upZ v 3 (i + 1)) tx7 r D kp kb x ∧ Arr T h' (b + 354 + 2) 739 rt ∧ 0 ≤ dg (tx i.toNat) ∧ dg (tx i.toNat) < e 0 0 := by
  have w0 := (wide7 S A Q hO).1
  have ho := hO.1
  have hc : 0 ≤ dg (tx i.toNat) ∧ dg (tx i.toNat) < e 0 0 := by
    obtain ⟨y, y1, y2⟩ := g.2
    exact ⟨y1.1, y1.2.1⟩
  obtain ⟨k1, e1, K1, p1⟩ := digit_t S hT hN n2 i1 i2 hI (lo := 0) (hi := e 0 0 - 1) (by omega) (by omega) (by omega) (by omega) ⟨g.1, hc.1, by omega⟩
  have A1 : Arr T k1 (b + 354 + 2) 739 rt := A.kept (p1 _ (by omega))
  refine ⟨k1, ?_, K1, A1, hc⟩
  rw [rm_form, mo_zo S.mo0, zsn, mo_r4 S.mo0, zsn, q0, w0, zsn, q1, iZ_sub, qm9, e1, zb2n, if_neg (by rw [iZ_eq (by omega) (by omega) (by omega) (by omega)]; omega)]
  rcases room7_eq (mo_ex K1.mo0) (mo_r4 K1.mo0) A1 Q.1 hO (x := dg (tx i.toNat)) (by omega) (by omega) with ⟨w, w2⟩ | ⟨w, w2⟩
  · rw [w2, zsn, if_neg (show ¬ iZ 1 = iZ 0 by decide)]
  · exact absurd g.2 w
/-- no row -/
theorem rm2_no (S : St T h b o n tx d cnt nxt dd fl ds fs v tx7 r D kp kb x) (hT : ∀ j : Nat, (j : Int) < n → tx7 j = tx j ∧ 0 ≤ tx j ∧ tx j ≤ 255) (hN : v 2 = n) (n2 : n ≤ 120) {i : Int} (i1 : 0 ≤ i) (i2 : i ≤ n) (hI : v 3 = i) {e : Nat → Nat → Int} {rt : Nat → Int} (A : Arr T h (b + 354 + 2) 739 rt) (Q : Pg e rt) (hO : OkD e) {cx : Int} (x1 : 0 ≤ cx) (x2 : cx < e 0 0) (g : ¬ (i < n ∧ inG e cx (dg (tx i.toNat)) ∧ cn e cx (dg (tx i.toNat)) < 2)) : ∃ h' v', RM1 T (b + 354) (iZ cx) h = some (iZ 0, h') ∧ St T h' b o n tx d cnt nxt dd fl ds fs v' tx7 r D kp kb x ∧ v' 3 = i ∧ (∀ j, j ≠ 3 → v' j = v j) ∧ Arr T h' (b + 354 + 2) 739 rt := by
  have w1 := (wide7 S A Q hO).2
  have ho := hO.1
  have hd := dg_in (c := tx i.toNat)
  unfold RM1
  rw [mo_r4 S.mo0, zsn, q0, q1, w1, zsn, iZ_sub, qm9]
  by_cases gd : i < n ∧ 0 ≤ dg (tx i.toNat) ∧ dg (tx i.toNat) ≤ e 0 1 - 1
  · obtain ⟨k1, e1, K1, p1⟩ := digit_t S hT hN n2 i1 i2 hI (lo := 0) (hi := e 0 1 - 1) (by omega) (by omega) (by omega) (by omega) gd
    have A1 : Arr T k1 (b + 354 + 2) 739 rt := A.kept (p1 _ (by omega))
    have gi : inG e cx (dg (tx i.toNat)) := ⟨x1, x2, gd.2.1, by omega⟩
    have hcn := hO.cn gi
    have c2 : cn e cx (dg (tx i.toNat)) = 2 := by
      by_cases w : cn e cx (dg (tx i.toNat)) < 2
      · exact absurd ⟨gd.1, gi, w⟩ g
      · omega
    obtain ⟨k2, e2, M2, f2⟩ := mo_set K1.mo0 (k := 3) (by omega) i
    refine ⟨k2, _, ?_, K1.mo M2 f2, upZ_self _ _ _, fun j hj => (upZ_ne _ _ hj).trans (upZ_ne _ _ hj), A1.kept (f2 _ (by omega))⟩
    rw [e1, zb2n, if_neg (by rw [iZ_eq (by omega) (by omega) (by omega) (by omega)]; omega), mo_r4 K1.mo0, zsn, cellAt_eq, zsn, zai_c A1 Q.1 hO gi, zsn, c2, q2, if_pos rfl, mo_g3 K1.mo0, upZ_self, zsn, iZ_sub, show i + 1 - 1 = i from by omega, e2, zsn]
  · obtain ⟨k1, e1, K1, p1⟩ := digit_f S hT hN n2 i1 i2 hI (lo := 0) (hi := e 0 1 - 1) (by omega) (by omega) (by omega) (by omega) gd
    refine ⟨k1, _, ?_, K1, upZ_self _ _ _, fun j hj => upZ_ne _ _ hj, A.kept (p1 _ (by omega))⟩
    rw [e1, zb2n, if_pos rfl]
/-- a row -/
theorem rm2_go (S : St T h b o n tx d cnt nxt dd fl ds fs v tx7 r D kp kb x) (hT : ∀ j : Nat, (j : Int) < n → tx7 j = tx j ∧ 0 ≤ tx j ∧ tx j ≤ 255) (hN : v 2 = n) (n2 : n ≤ 120) {i : Int} (i1 : 0 ≤ i) (i2 : i ≤ n) (hI : v 3 = i) {e : Nat → Nat → Int} {rt : Nat → Int} (A : Arr T h (b + 354 + 2) 739 rt) (Q : Pg e rt) (hO : OkD e) {cx : Int} (x1 : 0 ≤ cx) (x2 : cx < e 0 0) (g : i < n ∧ inG e cx (dg (tx i.toNat)) ∧ cn e cx (dg (tx i.toNat)) < 2) : ∃ h', RM1 T (b + 354) (iZ cx) h = RM2 T (b + 354) (iZ cx) (iZ (dg (tx i.toNat))) h' ∧ St T h' b o n tx d cnt nxt dd fl ds fs (upZ v 3 (i + 1)) tx7 r D kp kb x ∧ Arr T h' (b + 354 + 2) 739 rt := by
  have w1 := (wide7 S A Q hO).2
  have ho := hO.1
  obtain ⟨g1, g2, g3⟩ := g
  have gi := g2
  have hcn := hO.cn gi
  obtain ⟨a1, a2, a3, a4⟩ := g2
  obtain ⟨k1, e1, K1, p1⟩ := digit_t S hT hN n2 i1 i2 hI (lo := 0) (hi := e 0 1 - 1) (by omega) (by omega) (by omega) (by omega) ⟨g1, a3, by omega⟩
  have A1 : Arr T k1 (b + 354 + 2) 739 rt := A.kept (p1 _ (by omega))
  refine ⟨k1, ?_, K1, A1⟩
  unfold RM1
  rw [mo_r4 S.mo0, zsn, q0, q1, w1, zsn, iZ_sub, qm9, e1, zb2n, if_neg (by rw [iZ_eq (by omega) (by omega) (by omega) (by omega)]; omega), mo_r4 K1.mo0, zsn, cellAt_eq, zsn, zai_c A1 Q.1 hO gi, zsn, q2, if_neg (by rw [iZ_eq (by omega) (by omega) (by omega) (by omega)]; omega)]
def sgc (c : Int) : Prop := c = 45 ∨ (97 ≤ c ∧ c ≤ 122)
def sgv (c : Int) : Int := if c = 45 then 26 else c - 97
theorem sgv_in {c : Int} (h : sgc c) : 0 ≤ sgv c ∧ sgv c ≤ 26 := by
  unfold sgc at h
  unfold sgv
  split <;> omega
/-- sign, ink, slant: not all -/
theorem rm3_no (S : St T h b o n tx d cnt nxt dd fl ds fs v tx7 r D kp kb x) (hT : ∀ j : Nat, (j : Int) < n → tx7 j = tx j ∧ 0 ≤ tx j ∧ tx j ≤ 255) (hN : v 2 = n) (n2 : n ≤ 120) {i : Int} (i1 : 0 ≤ i) (i2 : i ≤ n) (hI : v 3 = i) {e : Nat → Nat → Int} {rt : Nat → Int} (A : Arr T h (b + 354 + 2) 739 rt) (Q : Pg e rt) (hO : OkD e) {p : Int} (x4 x11 : Int32) (g : (p = i ∧ ¬ (i < n ∧ sgc (tx i.toNat))) ∨ (p = i + 1 ∧ (i < n ∧ sgc (tx i.toNat)) ∧ ¬ (i + 1 < n ∧ 0 ≤ dg (tx (i + 1).toNat) ∧ dg (tx (i + 1).toNat) ≤ 3)) ∨ (p = i + 2 ∧ (i < n ∧ sgc (tx i.toNat)) ∧ (i + 1 < n ∧ 0 ≤ dg (tx (i + 1).toNat) ∧ dg (tx (i + 1).toNat) ≤ 3) ∧ ¬ (i + 2 < n ∧ 0 ≤ dg (tx (i + 2).toNat) ∧ dg (tx (i + 2).toNat) ≤ 8))) : ∃ h' v', RM2 T (b + 354) x4 x11 h = some (iZ 0, h') ∧ St T h' b o n tx d cnt nxt dd fl ds fs v' tx7 r D kp kb x ∧ v' 3 = p ∧ (∀ j, j ≠ 3 → v' j = v j) ∧ Arr T h' (b + 354 + 2) 739 rt := by
  unfold RM2
  simp only [zJn]
  rw [q0, qm9]
  rcases g with ⟨rfl, g1⟩ | ⟨rfl, g1, g2⟩ | ⟨rfl, g1, g2, g3⟩
  · obtain ⟨k1, v1, e1, K1, u1, u2, p1⟩ := sign_f S hT hN n2 i1 i2 hI g1
    refine ⟨k1, v1, ?_, K1, u1, u2, A.kept (p1 _ (by omega))⟩
    rw [e1, zb2n, if_pos rfl]
    (try (first | rw [if_pos rfl] | rw [if_pos trivial]))
    (try (first | rw [if_pos rfl] | rw [if_pos trivial]))
  · obtain ⟨k1, v1, e1, K1, u1, u2, p1⟩ := sign_t S hT hN n2 i1 i2 hI g1
    have hs : 0 ≤ (if tx i.toNat = 45 then 26 else tx i.toNat - 97) ∧ (if tx i.toNat = 45 then 26 else tx i.toNat - 97) ≤ 26 := sgv_in g1.2
    obtain ⟨k2, e2, K2, p2⟩ := digit_f K1 hT ((u2 2 (by decide)).trans hN) n2 (i := i + 1) (by omega) (by omega) u1 (lo := 0) (hi := 3) (by omega) (by omega) (by omega) (by omega) g2
    refine ⟨k2, _, ?_, K2, upZ_self _ _ _, fun j hj => (upZ_ne _ _ hj).trans (u2 j hj), (A.kept (p1 _ (by omega))).kept (p2 _ (by omega))⟩
    rw [e1, zb2n, if_neg (by rw [iZ_eq (by omega) (by omega) (by omega) (by omega)]; omega), q3, e2, zb2n, if_pos rfl]
    (try (first | rw [if_pos rfl] | rw [if_pos trivial]))
  · obtain ⟨k1, v1, e1, K1, u1, u2, p1⟩ := sign_t S hT hN n2 i1 i2 hI g1
    have hs : 0 ≤ (if tx i.toNat = 45 then 26 else tx i.toNat - 97) ∧ (if tx i.toNat = 45 then 26 else tx i.toNat - 97) ≤ 26 := sgv_in g1.2
    obtain ⟨k2, e2, K2, p2⟩ := digit_t K1 hT ((u2 2 (by decide)).trans hN) n2 (i := i + 1) (by omega) (by omega) u1 (lo := 0) (hi := 3) (by omega) (by omega) (by omega) (by omega) g2
    obtain ⟨k3, e3, K3, p3⟩ := digit_f K2 hT ((upZ_ne _ _ (by decide)).trans ((u2 2 (by decide)).trans hN)) n2 (i := i + 2) (by omega) (by omega) ((upZ_self _ _ _).trans (by omega)) (lo := 0) (hi := 8) (by omega) (by omega) (by omega) (by omega) g3
    refine ⟨k3, _, ?_, K3, upZ_self _ _ _, fun j hj => (upZ_ne _ _ hj).trans ((upZ_ne _ _ hj).trans (u2 j hj)), ((A.kept (p1 _ (by omega))).kept (p2 _ (by omega))).kept (p3 _ (by omega))⟩
    rw [e1, zb2n, if_neg (by rw [iZ_eq (by omega) (by omega) (by omega) (by omega)]; omega), q3, e2, zb2n, if_neg (by rw [iZ_eq (by omega) (by omega) (by omega) (by omega)]; omega), q8, e3, zb2n, if_pos rfl]
/-- sign, ink, slant: the mark is written -/
theorem rm3_go (S : St T h b o n tx d cnt nxt dd fl ds fs v tx7 r D kp kb x) (hT : ∀ j : Nat, (j : Int) < n → tx7 j = tx j ∧ 0 ≤ tx j ∧ tx j ≤ 255) (hN : v 2 = n) (n2 : n ≤ 120) {i : Int} (i1 : 0 ≤ i) (i2 : i ≤ n) (hI : v 3 = i) {e : Nat → Nat → Int} {rt : Nat → Int} (A : Arr T h (b + 354 + 2) 739 rt) (Q : Pg e rt) (hO : OkD e) {cx cy : Int} (gi : inG e cx cy) (hc : cn e cx cy < 2) (g1 : i < n ∧ sgc (tx i.toNat)) (g2 : i + 1 < n ∧ 0 ≤ dg (tx (i + 1).toNat) ∧ dg (tx (i + 1).toNat) ≤ 3) (g3 : i + 2 < n ∧ 0 ≤ dg (tx (i + 2).toNat) ∧ dg (tx (i + 2).toNat) ≤ 8) : ∃ h' v' rt', RM2 T (b + 354) (iZ cx) (iZ cy) h = some (iZ 1, h') ∧ St T h' b o n tx d cnt nxt dd fl ds fs (v') tx7 r D kp kb x ∧ v' 3 = i + 3 ∧ (∀ j, j ≠ 3 → v' j = v j) ∧ Arr T h' (b + 354 + 2) 739 rt' ∧ Pg (dadd e cx cy (sgv (tx i.toNat)) (dg (tx (i + 1).toNat)) (dg (tx (i + 2).toNat))) rt' := by
  have hcn := hO.cn gi
  have hce := cel_in (hO.g9 gi)
  have hs := sgv_in g1.2
  obtain ⟨k1, v1, e1, K1, u1, u2, p1⟩ := sign_t S hT hN n2 i1 i2 hI g1
  have e1' : FX7_readSign T (b + 354) h = some (iZ (sgv (tx i.toNat)), k1) := e1
  obtain ⟨k2, e2, K2, p2⟩ := digit_t K1 hT ((u2 2 (by decide)).trans hN) n2 (i := i + 1) (by omega) (by omega) u1 (lo := 0) (hi := 3) (by omega) (by omega) (by omega) (by omega) g2
  obtain ⟨k3, e3, K3, p3⟩ := digit_t K2 hT ((upZ_ne _ _ (by decide)).trans ((u2 2 (by decide)).trans hN)) n2 (i := i + 2) (by omega) (by omega) ((upZ_self _ _ _).trans (by omega)) (lo := 0) (hi := 8) (by omega) (by omega) (by omega) (by omega) g3
  have A3 : Arr T k3 (b + 354 + 2) 739 rt := ((A.kept (p1 _ (by omega))).kept (p2 _ (by omega))).kept (p3 _ (by omega))
  obtain ⟨k4, e4, A4, p4⟩ := writeOn_eq (s := sgv (tx i.toNat)) (k := dg (tx (i + 1).toNat)) (w := dg (tx (i + 2).toNat)) A3 hce.1 hce.2 hcn.1 hc (Q.1.c _ _ gi)
  refine ⟨k4, _, _, ?_, K3.read7 A4 p4, (upZ_self _ _ _).trans (by omega), fun j hj => (upZ_ne _ _ hj).trans ((upZ_ne _ _ hj).trans (u2 j hj)), A4, Pg_add Q hO gi hc⟩
  unfold RM2
  simp only [zJn]
  rw [q0, qm9, e1', zb2n, if_neg (by rw [iZ_eq (by omega) (by omega) (by omega) (by omega)]; omega), q3, e2, zb2n, if_neg (by rw [iZ_eq (by omega) (by omega) (by omega) (by omega)]; omega), q8, e3, zb2n, if_neg (by rw [iZ_eq (by omega) (by omega) (by omega) (by omega)]; omega), mo_r4 K3.mo0, zsn, cellAt_eq, zsn, e4, zb2n, q1]
end Rm7
