/-! a letter's cells in reading order, and what its reading then holds -/
def wq (d : Nat → Nat → Int) (L f : Int) : Nat → Nat → Nat → Int
  | 0 => wz
  | q + 1 => wcell d L f (wq d L f q) ((q / nP d f : Nat) : Int) ((q % nP d f : Nat) : Int)
def qx (d : Nat → Nat → Int) (f : Int) (q : Nat) : Int := cX f ((q / nP d f : Nat) : Int) ((q % nP d f : Nat) : Int)
def qy (d : Nat → Nat → Int) (f : Int) (q : Nat) : Int := cY f ((q / nP d f : Nat) : Int) ((q % nP d f : Nat) : Int)
def ci (d : Nat → Nat → Int) (f : Int) (q : Nat) : Nat := (9 * qx d f q + qy d f q).toNat
section Wq
variable {d : Nat → Nat → Int} {L f : Int}
theorem nLp (hO : OkD d) (f : Int) : 0 < nL d f ∧ 0 < nP d f := by
  obtain ⟨w1, w2, w3, w4⟩ := hO.wh
  have h1 := hO.1
  unfold nL nP
  constructor <;> split <;> omega
theorem wq_row (hO : OkD d) {l : Nat} (e : wq d L f (nP d f * l) = wall d L f wz l) : ∀ p : Nat, p ≤ nP d f → wq d L f (nP d f * l + p) = wline d L f l (wall d L f wz l) p
  | 0, _ => e
  | p + 1, hp => by
    have h0 := (nLp hO f).2
    have hd : (nP d f * l + p) / nP d f = l := by rw [Nat.mul_add_div h0, Nat.div_eq_of_lt (by omega)]; rfl
    have hm : (nP d f * l + p) % nP d f = p := by rw [Nat.mul_add_mod, Nat.mod_eq_of_lt (by omega)]
    show wcell d L f (wq d L f (nP d f * l + p)) (((nP d f * l + p) / nP d f : Nat) : Int) (((nP d f * l + p) % nP d f : Nat) : Int) = wcell d L f (wline d L f l (wall d L f wz l) p) l p
    rw [hd, hm, wq_row hO e p (by omega)]
theorem wq_all (hO : OkD d) : ∀ l : Nat, wq d L f (nP d f * l) = wall d L f wz l
  | 0 => rfl
  | l + 1 => by
    rw [Nat.mul_succ, wq_row hO (wq_all hO l) _ (Nat.le_refl _)]
    rfl
theorem wq_at (hO : OkD d) {q : Nat} (hq : q < nP d f * nL d f) : inG d (qx d f q) (qy d f q) ∧ q / nP d f < nL d f ∧ q % nP d f < nP d f ∧ RdOk (wq d L f q) 80 := by
  obtain ⟨a, c⟩ := nLP hO f
  have h0 := (nLp hO f).2
  have hl : q / nP d f < nL d f := Nat.div_lt_of_lt_mul hq
  have hp : q % nP d f < nP d f := Nat.mod_lt _ h0
  refine ⟨cXY_in (Int.natCast_nonneg _) (by omega) (Int.natCast_nonneg _) (by omega), hl, hp, ?_⟩
  have e := wq_row (L := L) (f := f) hO (wq_all hO (q / nP d f)) (q % nP d f) (by omega)
  rw [Nat.div_add_mod] at e
  rw [e]
  exact (RdOk_line hO (RdOk_all hO wz_new.ok (q / nP d f) (by omega)) hl (q % nP d f) (by omega)).mono (by omega)
theorem ci_inj (hO : OkD d) {q r : Nat} (hq : q < nP d f * nL d f) (hr : r < nP d f * nL d f) (e : ci d f q = ci d f r) : q = r := by
  have g1 := hO.g9 (wq_at (L := 0) hO hq).1
  have g2 := hO.g9 (wq_at (L := 0) hO hr).1
  unfold ci at e
  have ex : qx d f q = qx d f r ∧ qy d f q = qy d f r := by omega
  have e2 : q / nP d f = r / nP d f ∧ q % nP d f = r % nP d f := by
    unfold qx qy cX cY at ex
    by_cases f0 : f = 0
    · rw [if_pos f0, if_pos f0, if_pos f0, if_pos f0] at ex
      omega
    · rw [if_neg f0, if_neg f0, if_neg f0, if_neg f0] at ex
      omega
  rw [← Nat.div_add_mod q (nP d f), e2.1, e2.2, Nat.div_add_mod]
theorem in_q (hO : OkD d) {x y : Int} (g : inG d x y) : ∃ q : Nat, q < nP d f * nL d f ∧ qx d f q = x ∧ qy d f q = y := by
  obtain ⟨g1, g2, g3, g4⟩ := g
  have h0 := (nLp hO f).2
  have key : ∀ l p : Nat, l < nL d f → p < nP d f → (nP d f * l + p < nP d f * nL d f ∧ (nP d f * l + p) / nP d f = l ∧ (nP d f * l + p) % nP d f = p) := fun l p hl hp => by
    refine ⟨?_, by rw [Nat.mul_add_div h0, Nat.div_eq_of_lt hp]; rfl, by rw [Nat.mul_add_mod, Nat.mod_eq_of_lt hp]⟩
    have := Nat.mul_le_mul_left (nP d f) (show l + 1 ≤ nL d f from hl)
    rw [Nat.mul_succ] at this
    omega
  by_cases f0 : f = 0
  · have k := key y.toNat x.toNat (by unfold nL; rw [if_pos f0]; omega) (by unfold nP; rw [if_pos f0]; omega)
    refine ⟨_, k.1, ?_, ?_⟩
    · unfold qx cX
      rw [if_pos f0, k.2.2]; omega
    · unfold qy cY
      rw [if_pos f0, k.2.1]; omega
  · have k := key x.toNat y.toNat (by unfold nL; rw [if_neg f0]; omega) (by unfold nP; rw [if_neg f0]; omega)
    refine ⟨_, k.1, ?_, ?_⟩
    · unfold qx cX
      rw [if_neg f0, k.2.1]; omega
    · unfold qy cY
      rw [if_neg f0, k.2.2]; omega
theorem wq_s (q : Nat) : wq d L f (q + 1) = if sAt d L (qx d f q) (qy d f q) = -9 then wq d L f q else wst (wq d L f q) (ci d f q) ((q / nP d f : Nat) : Int) ((q % nP d f : Nat) : Int) (d 0 3) (sAt d L (qx d f q) (qy d f q)) := rfl
theorem wq_un (hO : OkD d) {r : Nat} (hr : r < nP d f * nL d f) : ∀ q : Nat, q ≤ r → wq d L f q 1 (ci d f r) = -9
  | 0, _ => rfl
  | q + 1, hq => by
    have ih := wq_un hO hr q (by omega)
    rw [wq_s]
    by_cases c : sAt d L (qx d f q) (qy d f q) = -9
    · rw [if_pos c]; exact ih
    · rw [if_neg c, wst_r.1, upZ_ne _ _ (fun z => by have := ci_inj hO hr (by omega) z; omega), (wgo1_br _ _ _ _).1]
      exact ih
theorem wq_fix (hO : OkD d) {q : Nat} : ∀ r : Nat, q < r → r ≤ nP d f * nL d f → wq d L f r 1 (ci d f q) = wq d L f (q + 1) 1 (ci d f q)
  | 0, h, _ => absurd h (by omega)
  | r + 1, h, hr => by
    by_cases e : q = r
    · rw [e]
    · have ih := wq_fix hO (q := q) r (by omega) (by omega)
      rw [wq_s r]
      by_cases c : sAt d L (qx d f r) (qy d f r) = -9
      · rw [if_pos c]; exact ih
      · rw [if_neg c, wst_r.1, upZ_ne _ _ (fun z => by have := ci_inj hO (by omega) (by omega) z; omega), (wgo1_br _ _ _ _).1]
        exact ih
theorem wq_set (hO : OkD d) {q : Nat} (hq : q < nP d f * nL d f) : (sAt d L (qx d f q) (qy d f q) = -9 → wq d L f (q + 1) = wq d L f q ∧ wq d L f (q + 1) 1 (ci d f q) = -9) ∧ (sAt d L (qx d f q) (qy d f q) ≠ -9 → wq d L f (q + 1) 1 (ci d f q) = wq d L f (q + 1) 0 0 - 1 ∧ (wq d L f (q + 1) 0 0 = wq d L f q 0 0 ∨ wq d L f (q + 1) 0 0 = wq d L f q 0 0 + 1) ∧ 1 ≤ wq d L f (q + 1) 0 0) := by
  have hk := (wq_at (L := L) hO hq).2.2.2
  refine ⟨fun c => ?_, fun c => ?_⟩
  · have e : wq d L f (q + 1) = wq d L f q := by rw [wq_s, if_pos c]
    refine ⟨e, ?_⟩
    rw [e]
    exact wq_un hO hq q (Nat.le_refl _)
  · have a := wgo1_c (l := ((q / nP d f : Nat) : Int)) (p := ((q % nP d f : Nat) : Int)) (g := d 0 3) hk
    rw [wq_s, if_neg c, wst_r.1, wst_v.1, upZ_self]
    exact ⟨rfl, a.1, a.2.1⟩
theorem wq_end (hO : OkD d) {q : Nat} (hq : q ≤ nP d f * nL d f) : RdOk (wq d L f q) 81 := by
  by_cases c : q < nP d f * nL d f
  · exact (wq_at hO c).2.2.2.mono (by omega)
  · obtain ⟨a, c⟩ := nLP hO f
    rw [show q = nP d f * nL d f by omega, wq_all hO]
    exact (RdOk_all hO wz_new.ok _ (Nat.le_refl _)).mono (by omega)
def JW (d : Nat → Nat → Int) (f : Int) (q : Nat) (w : Nat → Nat → Int) : Prop := (w 0 0 = 0 → w 0 1 = 0) ∧ (w 0 0 ≠ 0 → 0 ≤ w 0 6 ∧ w 0 6 ≤ ((q - 1) / nP d f : Nat) ∧ 1 ≤ q ∧ w 3 0 = 0 ∧ w 0 5 ≤ w 0 1 ∧ w 0 1 - w 0 5 ≤ w 0 6)
theorem wq_J (hO : OkD d) : ∀ q : Nat, q ≤ nP d f * nL d f → JW d f q (wq d L f q)
  | 0, _ => ⟨fun _ => rfl, fun z => absurd rfl z⟩
  | q + 1, hq => by
    obtain ⟨j1, j2⟩ := wq_J hO q (by omega)
    obtain ⟨-, hl, hp, hk⟩ := wq_at (L := L) hO (q := q) (f := f) (by omega)
    have hm : (q - 1) / nP d f ≤ q / nP d f := Nat.div_le_div_right (by omega)
    have hz0 : (0 : Int) ≤ ((q / nP d f : Nat) : Int) := Int.natCast_nonneg _
    rw [wq_s]
    by_cases c : sAt d L (qx d f q) (qy d f q) = -9
    · rw [if_pos c]
      refine ⟨j1, fun z => ?_⟩
      obtain ⟨k1, k2, k3, k4, k5, k6⟩ := j2 z
      rw [show q + 1 - 1 = q by omega]
      exact ⟨k1, by omega, by omega, k4, k5, k6⟩
    · rw [if_neg c]
      have a := wgo1_c (l := ((q / nP d f : Nat) : Int)) (p := ((q % nP d f : Nat) : Int)) (g := d 0 3) hk
      have br := wgo1_br (wq d L f q) ((q / nP d f : Nat) : Int) ((q % nP d f : Nat) : Int) (d 0 3)
      obtain ⟨v0, v1, v5, v6, -, -⟩ := wst_v (w := wq d L f q) (l := ((q / nP d f : Nat) : Int)) (p := ((q % nP d f : Nat) : Int)) (g := d 0 3) (s := sAt d L (qx d f q) (qy d f q)) (c := ci d f q)
      have v3 := (wst_r (w := wq d L f q) (l := ((q / nP d f : Nat) : Int)) (p := ((q % nP d f : Nat) : Int)) (g := d 0 3) (s := sAt d L (qx d f q) (qy d f q)) (c := ci d f q)).2.2
      obtain ⟨r1, r2, r3, r4, r5, r6, -, -, -, -, -, -, r13, r14⟩ := hk
      refine ⟨fun z => by rw [v0] at z; omega, fun _ => ?_⟩
      rw [v1, v5, v6, v3, a.2.2.2.2, show q + 1 - 1 = q by omega]
      obtain ⟨-, -, br⟩ := br
      rcases br with ⟨b1, b2, b3, b4⟩ | ⟨b1, b2, b3, b4, b5⟩ | ⟨b1, b2, b3, b4, b5⟩
      · obtain ⟨k1, k2, k3, k4, k5, k6⟩ := j2 b1.1
        rw [b4, b3]
        exact ⟨by omega, by omega, by omega, k4, by omega, by omega⟩
      · obtain ⟨k1, k2, k3, k4, k5, k6⟩ := j2 b2.1
        rw [b5, b4]
        exact ⟨by omega, by omega, by omega, k4, by omega, by omega⟩
      · rw [b5, b4]
        by_cases z : wq d L f q 0 0 = 0
        · have z1 := j1 z
          have z5 := r13 z
          refine ⟨by omega, by omega, by omega, ?_, by omega, by omega⟩
          rw [z]
          show upZ _ 0 _ 0 = 0
          rw [upZ_self]; exact z5
        · obtain ⟨k1, k2, k3, k4, k5, k6⟩ := j2 z
          refine ⟨by omega, by omega, by omega, ?_, by omega, by omega⟩
          rw [upZ_ne _ _ (by omega)]
          exact k4
theorem wq_gap (hO : OkD d) : ∀ q : Nat, q ≤ nP d f * nL d f → wq (dput d 0 3 3) L f q 0 0 ≤ wq (dput d 0 3 1) L f q 0 0 ∧ (wq (dput d 0 3 3) L f q 0 0 = 0 ↔ wq (dput d 0 3 1) L f q 0 0 = 0) ∧ wq (dput d 0 3 3) L f q 0 5 = wq (dput d 0 3 1) L f q 0 5 ∧ wq (dput d 0 3 3) L f q 0 6 = wq (dput d 0 3 1) L f q 0 6 ∧ wq (dput d 0 3 3) L f q 0 7 = wq (dput d 0 3 1) L f q 0 7 ∧ wq (dput d 0 3 3) L f q 0 8 = wq (dput d 0 3 1) L f q 0 8
  | 0, _ => ⟨Int.le_refl _, Iff.rfl, rfl, rfl, rfl, rfl⟩
  | q + 1, hq => by
    obtain ⟨j1, j2, j3, j4, j5, j6⟩ := wq_gap hO q (by omega)
    have h1 : OkD (dput d 0 3 1) := OkD_gap hO (by omega) (by omega)
    have h3 : OkD (dput d 0 3 3) := OkD_gap hO (by omega) (by omega)
    have k1 := (wq_at (L := L) h1 (q := q) (f := f) (show q < nP d f * nL d f by omega)).2.2.2.1
    have k3 := (wq_at (L := L) h3 (q := q) (f := f) (show q < nP d f * nL d f by omega)).2.2.2.1
    have s1 : wq (dput d 0 3 1) L f (q + 1) = if sAt d L (qx d f q) (qy d f q) = -9 then wq (dput d 0 3 1) L f q else wst (wq (dput d 0 3 1) L f q) (ci d f q) ((q / nP d f : Nat) : Int) ((q % nP d f : Nat) : Int) 1 (sAt d L (qx d f q) (qy d f q)) := rfl
    have s3 : wq (dput d 0 3 3) L f (q + 1) = if sAt d L (qx d f q) (qy d f q) = -9 then wq (dput d 0 3 3) L f q else wst (wq (dput d 0 3 3) L f q) (ci d f q) ((q / nP d f : Nat) : Int) ((q % nP d f : Nat) : Int) 3 (sAt d L (qx d f q) (qy d f q)) := rfl
    rw [s1, s3]
    by_cases c : sAt d L (qx d f q) (qy d f q) = -9
    · rw [if_pos c, if_pos c]
      exact ⟨j1, j2, j3, j4, j5, j6⟩
    · rw [if_neg c, if_neg c]
      generalize hs : sAt d L (qx d f q) (qy d f q) = s
      generalize hl : ((q / nP d f : Nat) : Int) = l
      generalize hp : ((q % nP d f : Nat) : Int) = p
      generalize hc : ci d f q = c9
      obtain ⟨-, -, b1⟩ := wgo1_br (wq (dput d 0 3 1) L f q) l p 1
      obtain ⟨-, -, b3⟩ := wgo1_br (wq (dput d 0 3 3) L f q) l p 3
      obtain ⟨v0, v1, v5, v6, v7, v8⟩ := wst_v (w := wq (dput d 0 3 1) L f q) (l := l) (p := p) (g := 1) (s := s) (c := c9)
      obtain ⟨u0, u1, u5, u6, u7, u8⟩ := wst_v (w := wq (dput d 0 3 3) L f q) (l := l) (p := p) (g := 3) (s := s) (c := c9)
      rw [v0, u0, v5, u5, v6, u6, v7, u7, v8, u8]
      rcases b1 with ⟨b1, b2, b5, -⟩ | ⟨b1, b2, b4, b5, -⟩ | ⟨b1, b2, b4, b5, -⟩ <;> rcases b3 with ⟨c1, c2, c5, -⟩ | ⟨c1, c2, c4, c5, -⟩ | ⟨c1, c2, c4, c5, -⟩ <;> refine ⟨?_, ?_, ?_, rfl, rfl, rfl⟩ <;> omega
end Wq
section Wr
variable {d : Nat → Nat → Int} {L : Nat}
theorem rd_wq (hO : OkD d) : rd d L = wq d L (d 3 L) (nP d (d 3 L) * nL d (d 3 L)) := (wq_all hO _).symm
theorem rd_at (hO : OkD d) {q : Nat} (hq : q < nP d (d 3 L) * nL d (d 3 L)) : rd d L 1 (ci d (d 3 L) q) = wq d L (d 3 L) (q + 1) 1 (ci d (d 3 L) q) := by
  rw [rd_wq hO]
  exact wq_fix hO _ hq (Nat.le_refl _)
/-- a cell's word: none where no sign of the letter stands -/
theorem rd_none (hO : OkD d) {x y : Int} (g : inG d x y) : (sAt d L x y = -9 → rd d L 1 (9 * x + y).toNat = -9) ∧ (sAt d L x y ≠ -9 → 0 ≤ rd d L 1 (9 * x + y).toNat) := by
  obtain ⟨q, hq, ex, ey⟩ := in_q (f := d 3 L) hO g
  have a := rd_at hO hq
  have s := wq_set (L := (L : Int)) hO hq
  unfold ci at a s
  rw [ex, ey] at a s
  rw [a]
  exact ⟨fun c => (s.1 c).2, fun c => by have := s.2 c; omega⟩
theorem rd_J (hO : OkD d) : (rd d L 0 0 = 0 → rd d L 0 1 = 0) ∧ (rd d L 0 0 ≠ 0 → rd d L 3 0 = 0 ∧ rd d L 0 5 ≤ rd d L 0 1 ∧ rd d L 0 1 - rd d L 0 5 < nL d (d 3 L)) := by
  have h0 := nLp hO (d 3 L)
  have hp := Nat.mul_pos h0.2 h0.1
  rw [rd_wq hO]
  obtain ⟨a, c⟩ := wq_J (L := (L : Int)) hO _ (Nat.le_refl (nP d (d 3 L) * nL d (d 3 L)))
  refine ⟨a, fun z => ?_⟩
  obtain ⟨k1, k2, k3, k4, k5, k6⟩ := c z
  have hd : (nP d (d 3 L) * nL d (d 3 L) - 1) / nP d (d 3 L) < nL d (d 3 L) := Nat.div_lt_of_lt_mul (by omega)
  exact ⟨k4, k5, by omega⟩
theorem rd_gap (hO : OkD d) : rd (dput d 0 3 3) L 0 0 ≤ rd (dput d 0 3 1) L 0 0 := by
  have h1 : OkD (dput d 0 3 1) := OkD_gap hO (by omega) (by omega)
  have h3 : OkD (dput d 0 3 3) := OkD_gap hO (by omega) (by omega)
  rw [rd_wq h1, rd_wq h3]
  exact (wq_gap (L := (L : Int)) hO _ (Nat.le_refl _)).1
theorem dput_same : dput d 0 3 (d 0 3) = d := by
  funext i j
  by_cases hi : i = 0
  · subst hi
    show upZ (d 0) 3 (d 0 3) j = d 0 j
    by_cases hj : j = 3
    · subst hj; exact upZ_self _ _ _
    · exact upZ_ne _ _ hj
  · rw [dput_ne hi]
theorem zsum_ones : ∀ n : Nat, zsum n (fun _ => 1) = n
  | 0 => rfl
  | n + 1 => by
    show zsum n (fun _ => 1) + 1 = ((n + 1 : Nat) : Int)
    rw [zsum_ones n]; omega
theorem csg_all {w : Nat → Nat → Int} (hW : RdOk w 81) (hS : SgIn w) : zsum 27 (fun s => csg w s) = w 0 5 := by
  have h5 := hW.2.2.2.2.1
  unfold csg
  rw [zsum_swap]
  have e : zsum (w 0 5).toNat (fun j => zsum 27 (fun s => if w 2 j = (s : Int) then 1 else 0)) = zsum (w 0 5).toNat (fun _ => 1) := zsum_congr _ (fun j hj => by
    have hs := hS.1 j (by omega)
    rw [zsum_one (f := fun _ => 0) (g := fun s : Nat => if w 2 j = (s : Int) then 1 else 0) (p := (w 2 j).toNat) 27 (by omega) (fun s _ hn => if_neg (by omega)), zsum_zero _ (fun _ _ => rfl)]
    show 0 + ((if w 2 j = (((w 2 j).toNat : Nat) : Int) then (1 : Int) else 0) - 0) = 1
    rw [if_pos (by omega)]; rfl)
  rw [e, zsum_ones]
  omega
/-- the marks of a letter, cell by cell -/
theorem rd_own (hO : OkD d) (hL : L < 2) : rd d L 0 1 = gsum d (hasS d L) := by
  have e := wall_marks (L := L) hO hL wz_new
  show wall d L (d 3 L) wz (nL d (d 3 L)) 0 1 = _
  rw [e]
  refine gsum_congr hO (fun x y g => ?_)
  rw [has_cinc hO (L := (L : Int)) (by omega) g, if_neg (by omega)]
  omega
end Wr
