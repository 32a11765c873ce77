/-! sheets alike: what can be seen of them is the same -/
def LE (d e : Nat → Nat → Int) : Prop := (∀ j, j < 4 → e 0 j = d 0 j) ∧ (∀ k, k < 2 → e 1 k = d 1 k ∧ e 2 k = d 2 k ∧ e 3 k = d 3 k) ∧ ∀ x y, inG d x y → cn e x y = cn d x y ∧ ∀ i : Int, 0 ≤ i → i < cn d x y → e 5 (pl x y i) = d 5 (pl x y i) ∧ e 6 (pl x y i) = d 6 (pl x y i) ∧ e 7 (pl x y i) = d 7 (pl x y i) ∧ e 8 (pl x y i) = d 8 (pl x y i)
section Le
variable {d e f : Nat → Nat → Int}
theorem LE.refl (d : Nat → Nat → Int) : LE d d := ⟨fun _ _ => rfl, fun _ _ => ⟨rfl, rfl, rfl⟩, fun _ _ _ => ⟨rfl, fun _ _ _ => ⟨rfl, rfl, rfl, rfl⟩⟩⟩
theorem LE.ig (h : LE d e) (x y : Int) : inG e x y ↔ inG d x y := by
  unfold inG
  rw [h.1 0 (by omega), h.1 1 (by omega)]
theorem LE.cc (h : LE d e) {x y : Int} (g : inG d x y) : cn e x y = cn d x y := (h.2.2 x y g).1
theorem LE.mm (h : LE d e) {x y i : Int} (g : inG d x y) (i1 : 0 ≤ i) (i2 : i < cn d x y) : e 5 (pl x y i) = d 5 (pl x y i) ∧ e 6 (pl x y i) = d 6 (pl x y i) ∧ e 7 (pl x y i) = d 7 (pl x y i) ∧ e 8 (pl x y i) = d 8 (pl x y i) := (h.2.2 x y g).2 i i1 i2
theorem LE.symm (h : LE d e) : LE e d := by
  refine ⟨fun j hj => (h.1 j hj).symm, fun k hk => ?_, fun x y g => ?_⟩
  · obtain ⟨a, b, c⟩ := h.2.1 k hk
    exact ⟨a.symm, b.symm, c.symm⟩
  · have g' := (h.ig x y).mp g
    refine ⟨(h.cc g').symm, fun i i1 i2 => ?_⟩
    obtain ⟨a, b, c, t⟩ := h.mm g' i1 (by rw [← h.cc g']; exact i2)
    exact ⟨a.symm, b.symm, c.symm, t.symm⟩
theorem LE.trans (h : LE d e) (k : LE e f) : LE d f := by
  refine ⟨fun j hj => (k.1 j hj).trans (h.1 j hj), fun q hq => ?_, fun x y g => ?_⟩
  · obtain ⟨a, b, c⟩ := h.2.1 q hq
    obtain ⟨a', b', c'⟩ := k.2.1 q hq
    exact ⟨a'.trans a, b'.trans b, c'.trans c⟩
  · have g' := (h.ig x y).mpr g
    refine ⟨(k.cc g').trans (h.cc g), fun i i1 i2 => ?_⟩
    obtain ⟨a, b, c, t⟩ := h.mm g i1 i2
    obtain ⟨a', b', c', t'⟩ := k.mm g' i1 (by rw [h.cc g]; exact i2)
    exact ⟨a'.trans a, b'.trans b, c'.trans c, t'.trans t⟩
theorem LE.same (hs : SameD d e) (hO : OkD d) : LE d e := by
  refine ⟨hs.1, fun k hk => same_l hs hk, fun x y g => ⟨same_cn hs hO g, fun i i1 i2 => ?_⟩⟩
  have := hO.cn g
  exact same_m hs hO g i1 (by omega)
theorem LE.ok (h : LE d e) (hO : OkD d) : OkD e := by
  obtain ⟨o1, o2, o3, o4⟩ := hO
  refine ⟨?_, ?_, ?_, fun x y g => ?_⟩
  · rw [h.1 0 (by omega), h.1 1 (by omega), h.1 2 (by omega), h.1 3 (by omega)]; exact o1
  · obtain ⟨a, b, c⟩ := h.2.1 0 (by omega)
    unfold lwOk
    rw [a, b, c]; exact o2
  · obtain ⟨a, b, c⟩ := h.2.1 1 (by omega)
    unfold lwOk
    rw [a, b, c]; exact o3
  · have g' := (h.ig x y).mp g
    have hk := o4 x y g'
    rw [h.cc g']
    refine ⟨hk.1, hk.2.1, fun i i1 i2 => ?_, fun h2 => ?_⟩
    · obtain ⟨a, b, c, t⟩ := h.mm g' i1 i2
      unfold mkOk
      rw [a, b, c, t]
      exact hk.2.2.1 i i1 i2
    · obtain ⟨-, -, -, t⟩ := h.mm g' (i := 0) (by omega) (by omega)
      obtain ⟨-, -, -, t2⟩ := h.mm g' (i := 1) (by omega) (by omega)
      rw [t, t2]
      exact hk.2.2.2 h2
theorem le_dst (h : LE d e) {x y i : Int} (g : inG d x y) (i1 : 0 ≤ i) (i2 : i < cn d x y) {k : Nat} (hk : k < 2) : dst e (pl x y i) k = dst d (pl x y i) k := by
  obtain ⟨m5, m6, m7, m8⟩ := h.mm g i1 i2
  obtain ⟨l1, l2, l3⟩ := h.2.1 k hk
  unfold dst
  rw [m6, m7, l1, l2]
theorem le_dec (h : LE d e) {x y i : Int} (g : inG d x y) (i1 : 0 ≤ i) : dec e x y i = dec d x y i := by
  unfold dec
  rw [h.cc g]
  by_cases c : i < cn d x y
  · rw [if_pos c, if_pos c]
    exact (h.mm g i1 c).2.2.2
  · rw [if_neg c, if_neg c]
theorem le_lean (h : LE d e) {x y : Int} (g : inG d x y) (hc : 0 < cn d x y) : lean e x y = lean d x y := by
  unfold lean
  rw [h.cc g, le_dst h g (by omega) (by omega) (k := 1) (by omega), le_dst h g (by omega) (by omega) (k := 0) (by omega)]
  by_cases c : 1 < cn d x y
  · rw [if_pos c, if_pos c, le_dst h g (by omega) (by omega) (k := 1) (by omega), le_dst h g (by omega) (by omega) (k := 0) (by omega)]
  · rw [if_neg c, if_neg c]
theorem le_own (h : LE d e) {x y : Int} (g : inG d x y) : own e x y = own d x y := by
  unfold own
  rw [h.cc g]
  by_cases c : cn d x y ≤ 0
  · rw [if_pos c, if_pos c]
  · rw [if_neg c, if_neg c, le_dec h g (by omega), le_dec h g (by omega), le_lean h g (by omega), h.1 2 (by omega)]
theorem le_rul (h : LE d e) {x y i : Int} (g : inG d x y) (i1 : 0 ≤ i) (i2 : i < 2) : rul e x y i = rul d x y i := by
  unfold rul
  rw [le_dec h g i1, le_dec h g (i := 1 - i) (by omega), le_own h g, h.cc g]
theorem le_ownof (h : LE d e) {x y i : Int} (g : inG d x y) : ownof e x y i = ownof d x y i := by
  unfold ownof
  rw [le_own h g]
theorem le_gsum (h : LE d e) (hO : OkD d) {p q : Int → Int → Int} (hf : ∀ x y, inG d x y → q x y = p x y) : gsum e q = gsum d p := by
  obtain ⟨w1, w2, w3, w4⟩ := hO.wh
  unfold gsum
  rw [h.1 0 (by omega), h.1 1 (by omega)]
  exact zsum_congr _ (fun i hi => zsum_congr _ (fun j hj => hf i j ⟨by omega, by omega, by omega, by omega⟩))
theorem le_dbt (h : LE d e) (hO : OkD d) : gsum e (dbt e) = gsum d (dbt d) := le_gsum h hO (fun x y g => by unfold dbt; rw [le_own h g, h.cc g])
theorem le_cnt (h : LE d e) (hO : OkD d) : gsum e (cn e) = gsum d (cn d) := le_gsum h hO (fun x y g => h.cc g)
theorem le_dcd (h : LE d e) (hO : OkD d) : gsum e (dcd e) = gsum d (dcd d) := le_gsum h hO (fun x y g => by
  unfold dcd
  exact zsum_congr 2 (fun i hi => by rw [le_dec h g (by omega)]))
theorem le_fll (h : LE d e) (hO : OkD d) : gsum e (fll e) = gsum d (fll d) := le_gsum h hO (fun x y g => by unfold fll; rw [h.cc g])
theorem le_sAt (h : LE d e) {L x y : Int} (g : inG d x y) : sAt e L x y = sAt d L x y := by
  unfold sAt
  rw [le_own h g, h.cc g]
  by_cases c1 : own d x y = L
  · rw [if_pos c1, if_pos c1]
    by_cases c2 : 0 < cn d x y
    · rw [if_pos c2, if_pos c2, (h.mm g (i := 0) (by omega) c2).1]
    · rw [if_neg c2, if_neg c2]
  · rw [if_neg c1, if_neg c1]
    by_cases c9 : own d x y = -9
    · rw [if_pos c9, if_pos c9]
    · rw [if_neg c9, if_neg c9]
      by_cases c2 : 1 < cn d x y
      · rw [if_pos c2, if_pos c2, (h.mm g (i := 1) (by omega) c2).1]
      · rw [if_neg c2, if_neg c2]
theorem le_nL (h : LE d e) (t : Int) : nL e t = nL d t ∧ nP e t = nP d t := by
  unfold nL nP
  rw [h.1 0 (by omega), h.1 1 (by omega)]
  exact ⟨rfl, rfl⟩
theorem le_cell (h : LE d e) {L t l p : Int} {w : Nat → Nat → Int} (g : inG d (cX t l p) (cY t l p)) : wcell e L t w l p = wcell d L t w l p := by
  unfold wcell
  rw [le_sAt h g, h.1 3 (by omega)]
theorem le_line (h : LE d e) {L t : Int} {l : Nat} {w : Nat → Nat → Int} (l2 : l < nL d t) : ∀ p : Nat, p ≤ nP d t → wline e L t l w p = wline d L t l w p
  | 0, _ => rfl
  | p + 1, hp => by
    show wcell e L t (wline e L t l w p) l p = wcell d L t (wline d L t l w p) l p
    rw [le_line h l2 p (by omega), le_cell h (cXY_in (by omega) (by omega) (by omega) (by omega))]
theorem le_all (h : LE d e) {L t : Int} {w : Nat → Nat → Int} : ∀ l : Nat, l ≤ nL d t → wall e L t w l = wall d L t w l
  | 0, _ => rfl
  | l + 1, hl => by
    show wline e L t l (wall e L t w l) (nP e t) = wline d L t l (wall d L t w l) (nP d t)
    rw [le_all h l (by omega), (le_nL h t).2, le_line h (by omega) _ (Nat.le_refl _)]
end Le
/-! what a reading is, without what was there before -/
def RdE (w v : Nat → Nat → Int) : Prop := v 0 0 = w 0 0 ∧ v 0 1 = w 0 1 ∧ v 0 5 = w 0 5 ∧ (w 0 0 ≠ 0 → v 0 6 = w 0 6 ∧ v 0 7 = w 0 7 ∧ v 0 8 = w 0 8) ∧ (∀ j, j < 81 → v 1 j = w 1 j) ∧ (∀ j : Nat, (j : Int) < w 0 5 → v 2 j = w 2 j) ∧ ∀ j : Nat, (j : Int) < w 0 0 → v 3 j = w 3 j
section Re
variable {w v d : Nat → Nat → Int}
theorem rde_st {l p g s : Int} {c : Nat} (hW : RdOk w 80) (h : RdE w v) : RdE (wst w c l p g s) (wst v c l p g s) := by
  obtain ⟨a0, a1, a5, a6, b1, b2, b3⟩ := h
  obtain ⟨k1, k2, k3, k4, k5, k6, -⟩ := hW
  obtain ⟨x0, x1, x5, x6, x7, x8⟩ := wst_v (w := w) (l := l) (p := p) (g := g) (s := s) (c := c)
  obtain ⟨y0, y1, y5, y6, y7, y8⟩ := wst_v (w := v) (l := l) (p := p) (g := g) (s := s) (c := c)
  obtain ⟨r1, r2, r3⟩ := wst_r (w := w) (l := l) (p := p) (g := g) (s := s) (c := c)
  obtain ⟨s1, s2, s3⟩ := wst_r (w := v) (l := l) (p := p) (g := g) (s := s) (c := c)
  obtain ⟨t1, t2, t3⟩ := wgo1_br w l p g
  obtain ⟨u1, u2, u3⟩ := wgo1_br v l p g
  have m1 : wgo1 w l p g 0 1 = w 0 1 := by unfold wgo1; split; · rfl
                                           · split <;> rfl
  have m2 : wgo1 v l p g 0 1 = v 0 1 := by unfold wgo1; split; · rfl
                                           · split <;> rfl
  have key : wgo1 v l p g 0 0 = wgo1 w l p g 0 0 ∧ wgo1 v l p g 0 5 = wgo1 w l p g 0 5 ∧ (wgo1 w l p g 0 5 ≤ w 0 5) ∧ (∀ j : Nat, (j : Int) < wgo1 w l p g 0 0 → wgo1 v l p g 3 j = wgo1 w l p g 3 j) := by
    by_cases c0 : w 0 0 = 0
    · rcases t3 with ⟨q, -⟩ | ⟨-, q, -⟩ | ⟨-, -, q3, q4, q5⟩
      · exact absurd c0 q.1
      · exact absurd c0 q.1
      rcases u3 with ⟨q, -⟩ | ⟨-, q, -⟩ | ⟨-, -, z3, z4, z5⟩
      · exact absurd (a0.trans c0) q.1
      · exact absurd (a0.trans c0) q.1
      rw [q3, z3, q4, z4, q5, z5, a0, a5]
      refine ⟨rfl, rfl, by omega, fun j hj => ?_⟩
      have e : j = (w 0 0).toNat := by omega
      rw [upZ_eq _ _ e, upZ_eq _ _ e]
    · obtain ⟨e6, e7, e8⟩ := a6 c0
      rw [a0, e6, e7, e8] at u3
      rcases t3 with ⟨c1, q1, q2, q3⟩ | ⟨c1, c2, q1, q2, q3⟩ | ⟨c1, c2, q1, q2, q3⟩
      · rcases u3 with ⟨-, z1, z2, z3⟩ | ⟨z, -⟩ | ⟨z, -⟩
        · rw [q1, z1, q2, z2, q3, z3, a5]
          exact ⟨rfl, rfl, by omega, b3⟩
        · exact absurd c1 z
        · exact absurd c1 z
      · rcases u3 with ⟨z, -⟩ | ⟨-, -, z1, z2, z3⟩ | ⟨-, z, -⟩
        · exact absurd z c1
        · rw [q1, z1, q2, z2, q3, z3, a5]
          exact ⟨rfl, rfl, by omega, b3⟩
        · exact absurd c2 z
      · rcases u3 with ⟨z, -⟩ | ⟨-, z, -⟩ | ⟨-, -, z1, z2, z3⟩
        · exact absurd z c1
        · exact absurd z c2
        · rw [q1, z1, q2, z2, q3, z3, a5]
          refine ⟨rfl, rfl, by omega, fun j hj => ?_⟩
          by_cases e : j = (w 0 0).toNat
          · rw [upZ_eq _ _ e, upZ_eq _ _ e]
          · rw [upZ_ne _ _ e, upZ_ne _ _ e]
            exact b3 j (by omega)
  obtain ⟨g0, g5, g6, g3⟩ := key
  unfold RdE
  rw [x0, x1, x5, x6, x7, x8, y0, y1, y5, y6, y7, y8, r1, r2, r3, s1, s2, s3, g0, g5, m1, m2, a1, t1, t2, u1, u2]
  refine ⟨rfl, rfl, rfl, fun _ => ⟨rfl, rfl, rfl⟩, fun j hj => ?_, fun j hj => ?_, g3⟩
  · by_cases e : j = c
    · rw [upZ_eq _ _ e, upZ_eq _ _ e]
    · rw [upZ_ne _ _ e, upZ_ne _ _ e]
      exact b1 j hj
  · by_cases e : j = (wgo1 w l p g 0 5).toNat
    · rw [upZ_eq _ _ e, upZ_eq _ _ e]
    · rw [upZ_ne _ _ e, upZ_ne _ _ e]
      exact b2 j (by omega)
theorem rde_cell {L f l p : Int} (hW : RdOk w 80) (h : RdE w v) : RdE (wcell d L f w l p) (wcell d L f v l p) := by
  unfold wcell
  by_cases c1 : sAt d L (cX f l p) (cY f l p) = -9
  · rw [if_pos c1, if_pos c1]; exact h
  · rw [if_neg c1, if_neg c1]; exact rde_st hW h
theorem rde_line (hO : OkD d) {L f : Int} {l : Nat} (hW : RdOk w (9 * l)) (h : RdE w v) (l2 : l < nL d f) : ∀ p : Nat, p ≤ nP d f → RdE (wline d L f l w p) (wline d L f l v p)
  | 0, _ => h
  | p + 1, hp => by
    obtain ⟨a, c⟩ := nLP hO f
    exact rde_cell ((RdOk_line (f := f) hO (L := L) hW l2 p (by omega)).mono (by omega)) (rde_line hO hW h l2 p (by omega))
theorem rde_all (hO : OkD d) {L f : Int} (hW : RdOk w 0) (h : RdE w v) : ∀ l : Nat, l ≤ nL d f → RdE (wall d L f w l) (wall d L f v l)
  | 0, _ => h
  | l + 1, hl => rde_line hO (RdOk_all (f := f) hO (L := L) hW l (by omega)) (rde_all hO hW h l (by omega)) (by omega) _ (Nat.le_refl _)
def wz : Nat → Nat → Int := fun r _ => if r = 1 then -9 else 0
theorem wz_new : RdNew wz := ⟨rfl, rfl, rfl, ⟨by show (-99 : Int) ≤ 0; omega, by show (0 : Int) ≤ 99; omega, by show (-99 : Int) ≤ 0; omega, by show (0 : Int) ≤ 99; omega, by show (-99 : Int) ≤ 0; omega, by show (0 : Int) ≤ 99; omega⟩, fun _ _ => rfl⟩
theorem rde_new (hN : RdNew v) : RdE wz v := by
  obtain ⟨a, b, c, -, e⟩ := hN
  refine ⟨a, b, c, fun z => absurd rfl z, fun j hj => e j hj, fun j hj => ?_, fun j hj => ?_⟩
  · have : (j : Int) < 0 := hj
    omega
  · have : (j : Int) < 0 := hj
    omega
/-- the reading of a letter -/
def rd (d : Nat → Nat → Int) (L : Nat) : Nat → Nat → Int := wall d L (d 3 L) wz (nL d (d 3 L))
theorem rd_ok (hO : OkD d) (L : Nat) : RdOk (rd d L) 81 := rdok (L := L) hO wz_new
theorem rd_so (hO : OkD d) (L : Nat) : SO (rd d L) := rdso (L := L) hO wz_new
theorem rd_sg (hO : OkD d) (L : Nat) : SgIn (rd d L) := rdsg (L := L) hO wz_new
theorem rd_of (hO : OkD d) {L : Nat} (hN : RdNew v) : RdE (rd d L) (wall d L (d 3 L) v (nL d (d 3 L))) := rde_all hO wz_new.ok (rde_new hN) _ (Nat.le_refl _)
theorem le_rd {e : Nat → Nat → Int} (h : LE d e) {L : Nat} (hL : L < 2) : rd e L = rd d L := by
  unfold rd
  rw [(h.2.1 L hL).2.2, (le_nL h _).1, le_all h _ (Nat.le_refl _)]
theorem rde_len (h : RdE w v) (hW : RdOk w 81) {i : Int} (i1 : 0 ≤ i) (i2 : i < w 0 0) : wlen v i = wlen w i := by
  obtain ⟨a0, a1, a5, a6, b1, b2, b3⟩ := h
  unfold wlen
  rw [a0, a5, b3 i.toNat (by omega)]
  by_cases c : w 0 0 ≤ i + 1
  · rw [if_pos c, if_pos c]
  · rw [if_neg c, if_neg c, b3 (i + 1).toNat (by omega)]
theorem rde_sig (h : RdE w v) (hW : RdOk w 81) (hS : SO w) {i p : Int} (i1 : 0 ≤ i) (i2 : i < w 0 0) : wsg v i p = wsg w i p := by
  have hl := wlen_in hS hW i1 i2
  have e := rde_len h hW i1 i2
  obtain ⟨a0, a1, a5, a6, b1, b2, b3⟩ := h
  unfold wsg
  rw [e]
  by_cases c : 0 ≤ p ∧ p < wlen w i
  · rw [if_pos c, if_pos c, b3 i.toNat (by omega), b2 _ (by omega)]
  · rw [if_neg c, if_neg c]
theorem accu_congr {g g' : Nat → Int → Int} {s : Int} : ∀ n : Nat, (∀ i s, i < n → g' i s = g i s) → accu g' n s = accu g n s
  | 0, _ => rfl
  | n + 1, h => by
    show g' n (accu g' n s) = g n (accu g n s)
    rw [accu_congr n (fun i s hi => h i s (by omega)), h n _ (by omega)]
theorem rde_max (h : RdE w v) (hW : RdOk w 81) : lmax v = lmax w := by
  unfold lmax
  rw [h.1]
  exact accu_congr _ (fun i s hi => by rw [rde_len h hW (by omega) (by omega)])
theorem rde_csg (h : RdE w v) (s : Int) : csg v s = csg w s := by
  unfold csg
  rw [h.2.2.1]
  exact zsum_congr _ (fun j hj => by rw [h.2.2.2.2.2.1 j (by omega)])
end Re
