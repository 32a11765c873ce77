/-! the same sheet has the same doubts; the trial sheet, the trial page -/
section Sd
variable {d d' : Nat → Nat → Int}
theorem same_dst (hs : SameD d d') (hO : OkD d) {x y i : Int} (g : inG d x y) (i1 : 0 ≤ i) (i2 : i < 2) {k : Nat} (hk : k < 2) : dst d' (pl x y i) k = dst d (pl x y i) k := by
  obtain ⟨m5, m6, m7, m8⟩ := same_m hs hO g i1 i2
  obtain ⟨l1, l2, l3⟩ := same_l hs hk
  unfold dst
  rw [m6, m7, l1, l2]
theorem same_dec (hs : SameD d d') (hO : OkD d) {x y i : Int} (g : inG d x y) (i1 : 0 ≤ i) (i2 : i < 2) : dec d' x y i = dec d x y i := by
  obtain ⟨m5, m6, m7, m8⟩ := same_m hs hO g i1 i2
  unfold dec
  rw [same_cn hs hO g, m8]
theorem same_lean (hs : SameD d d') (hO : OkD d) {x y : Int} (g : inG d x y) : lean d' x y = lean d x y := by
  unfold lean
  rw [same_cn hs hO g, same_dst hs hO g (by omega) (by omega) (k := 1) (by omega), same_dst hs hO g (by omega) (by omega) (k := 0) (by omega), same_dst hs hO g (by omega) (by omega) (k := 0) (by omega), same_dst hs hO g (by omega) (by omega) (k := 1) (by omega)]
theorem same_own (hs : SameD d d') (hO : OkD d) {x y : Int} (g : inG d x y) : own d' x y = own d x y := by
  unfold own
  rw [same_cn hs hO g, same_dec hs hO g (by omega) (by omega), same_dec hs hO g (by omega) (by omega), same_lean hs hO g, hs.1 2 (by omega)]
theorem same_dbt (hs : SameD d d') (hO : OkD d) : gsum d' (dbt d') = gsum d (dbt d) := by
  obtain ⟨w1, w2, w3, w4⟩ := hO.wh
  unfold gsum
  rw [hs.1 0 (by omega), hs.1 1 (by omega)]
  refine zsum_congr _ (fun i hi => zsum_congr _ (fun j hj => ?_))
  have g : inG d i j := ⟨by omega, by omega, by omega, by omega⟩
  show dbt d' i j = dbt d i j
  unfold dbt
  rw [same_own hs hO g, same_cn hs hO g]
theorem dbt_162 (hO : OkD d) : 0 ≤ gsum d (dbt d) ∧ gsum d (dbt d) ≤ 162 := by
  obtain ⟨w1, w2, w3, w4⟩ := hO.wh
  unfold gsum
  have g1 : ∀ i : Nat, i < (d 0 0).toNat → 0 ≤ zsum (d 0 1).toNat (fun y => dbt d i y) ∧ zsum (d 0 1).toNat (fun y => dbt d i y) ≤ 18 := fun i hi => by
    have g := zsum_le (f := fun y => dbt d i y) (m := 2) (d 0 1).toNat (fun j hj => by
      have := hO.cn (x := i) (y := j) ⟨by omega, by omega, by omega, by omega⟩
      unfold dbt
      split <;> omega)
    omega
  have g := zsum_le (f := fun x => zsum (d 0 1).toNat (fun y => dbt d x y)) (m := 18) (d 0 0).toNat g1
  omega
theorem upZ_up (f : Nat → Int) (k : Nat) (p q : Int) : upZ (upZ f k p) k q = upZ f k q := by
  funext j
  unfold upZ
  by_cases c : j = k
  · rw [if_pos c, if_pos c]
  · rw [if_neg c, if_neg c, if_neg c]
end Sd
section Tl
variable {T : zT} {hz h : zH} {b o : Nat} {n : Int} {tx : Nat → Int} {d : Nat → Nat → Int} {cnt nxt : Int} {dd : Nat → Nat → Nat → Int} {fl : Nat → Int} {ds : Nat → Nat → Nat → Int} {fs v tx7 r D kp kb : Nat → Int} {x : Int64}
variable {h' : zH}
theorem St.trial (S : St T hz h b n tx d cnt nxt dd fl ds fs) {d' : Nat → Nat → Int} (M : ShAt T h' (b + 21) d') (f : offS (b + 21) h h') : St T hz h' b n tx d cnt nxt dd fl ds fs := S.sc (i := 1) (by omega) ⟨_, M⟩ (fun q hq => f q hq)
theorem St.tt (S : St T hz h b n tx d cnt nxt dd fl ds fs) : ∃ h' d1, FX3_takeFrom T (b + 21) (b + 4) h = some h' ∧ SameD d d1 ∧ ShAt T h' (b + 21) d1 ∧ St T hz h' b n tx d cnt nxt dd fl ds fs := by
  have S1 : ∃ e, ShAt T h (b + 21) e := S.2.2.1 1 (by omega)
  obtain ⟨e, E⟩ := S1
  obtain ⟨h1, d1, e1, M1, hs, f1⟩ := takeFrom_eq E S.sh0 (by omega)
  exact ⟨h1, d1, e1, hs, M1, S.trial M1 f1⟩
end Tl
/-! call: bestPen -/
def pdb (d : Nat → Nat → Int) (L : Nat) (u v : Int) : Int := gsum (dlet d L u v (d 3 L)) (dbt (dlet d L u v (d 3 L)))
def st6 (c code : Int) (s : Int × Int) : Int × Int := if s.2 ≤ c then s else (code, c)
def st7 (c code : Int) (s : Int × Int) : Int × Int := if s.1 = -9 then (code, c) else if s.2 ≤ c then s else (code, c)
def pf (st : Int → Int → Int × Int → Int × Int) (d : Nat → Nat → Int) (L : Nat) (u : Int) : Nat → Int × Int → Int × Int
  | 0, s => s
  | v + 1, s => st (pdb d L u v) (10 * u + v) (pf st d L u v s)
def po (st : Int → Int → Int × Int → Int × Int) (d : Nat → Nat → Int) (L : Nat) : Nat → Int × Int → Int × Int
  | 0, s => s
  | u + 1, s => pf st d L u 9 (po st d L u s)
def r67 (s t : Int × Int) : Prop := (s = t ∧ s.1 ≠ -9) ∨ (s = (-9, 163) ∧ t = (-9, 0))
def bd2 (s : Int × Int) : Prop := -9 ≤ s.1 ∧ s.1 ≤ 1000 ∧ 0 ≤ s.2 ∧ s.2 ≤ 163
theorem r67_st {s t : Int × Int} {c code : Int} (h : r67 s t) (c1 : c ≤ 162) (k1 : 0 ≤ code) : r67 (st6 c code s) (st7 c code t) := by
  rcases h with ⟨rfl, h⟩ | ⟨rfl, rfl⟩
  · unfold st6 st7
    rw [if_neg h]
    by_cases g : s.2 ≤ c
    · rw [if_pos g]; exact Or.inl ⟨rfl, h⟩
    · rw [if_neg g]; exact Or.inl ⟨rfl, by show code ≠ -9; omega⟩
  · unfold st6 st7
    rw [if_pos rfl, if_neg (by show ¬ ((163 : Int) ≤ c); omega)]
    exact Or.inl ⟨rfl, by show code ≠ -9; omega⟩
theorem bd2_6 {s : Int × Int} {c code : Int} (h : bd2 s) (c1 : 0 ≤ c) (c2 : c ≤ 162) (k1 : 0 ≤ code) (k2 : code ≤ 1000) : bd2 (st6 c code s) := by
  unfold st6
  by_cases g : s.2 ≤ c
  · rw [if_pos g]; exact h
  · rw [if_neg g]; exact ⟨by show -9 ≤ code; omega, k2, c1, by show c ≤ 163; omega⟩
theorem bd2_7 {s : Int × Int} {c code : Int} (h : bd2 s) (c1 : 0 ≤ c) (c2 : c ≤ 162) (k1 : 0 ≤ code) (k2 : code ≤ 1000) : bd2 (st7 c code s) := by
  unfold st7
  have hn : bd2 (code, c) := ⟨by show -9 ≤ code; omega, k2, c1, by show c ≤ 163; omega⟩
  by_cases g0 : s.1 = -9
  · rw [if_pos g0]; exact hn
  · rw [if_neg g0]
    by_cases g : s.2 ≤ c
    · rw [if_pos g]; exact h
    · rw [if_neg g]; exact hn
theorem pdb_in {d : Nat → Nat → Int} (hO : OkD d) {L : Nat} (hL : L < 2) {u v : Int} (hu : 0 ≤ u ∧ u ≤ 3) (hv : 0 ≤ v ∧ v ≤ 8) : OkD (dlet d L u v (d 3 L)) ∧ 0 ≤ pdb d L u v ∧ pdb d L u v ≤ 162 := by
  have hl := hO.lw hL
  unfold lwOk at hl
  have hn : OkD (dlet d L u v (d 3 L)) := OkD_let hO ⟨hu.1, hu.2, hv.1, hv.2, by omega, by omega⟩
  exact ⟨hn, dbt_162 hn⟩
theorem pf_r {d : Nat → Nat → Int} (hO : OkD d) {L : Nat} (hL : L < 2) {u : Nat} (hu : u < 4) {s t : Int × Int} (h : r67 s t) : ∀ v : Nat, v ≤ 9 → r67 (pf st6 d L u v s) (pf st7 d L u v t)
  | 0, _ => h
  | v + 1, hv => by
    have g := pdb_in hO hL (u := u) (v := v) (by omega) (by omega)
    exact r67_st (pf_r hO hL hu h v (by omega)) g.2.2 (by omega)
theorem po_r {d : Nat → Nat → Int} (hO : OkD d) {L : Nat} (hL : L < 2) {s t : Int × Int} (h : r67 s t) : ∀ u : Nat, u ≤ 4 → r67 (po st6 d L u s) (po st7 d L u t)
  | 0, _ => h
  | u + 1, hu => pf_r hO hL (by omega) (po_r hO hL h u (by omega)) 9 (by omega)
theorem po_eq {d : Nat → Nat → Int} (hO : OkD d) {L : Nat} (hL : L < 2) : (po st6 d L 4 (-9, 163)).1 = (po st7 d L 4 (-9, 0)).1 := by
  rcases po_r hO hL (Or.inr ⟨rfl, rfl⟩) 4 (by omega) with ⟨e, -⟩ | ⟨e1, e2⟩
  · rw [e]
  · rw [e1, e2]
def PenEq (d dt : Nat → Nat → Int) (L : Nat) : Prop := ∀ p q : Int, SameD (dlet d L p q (d 3 L)) (dput (dput dt 1 L p) 2 L q)
theorem penEq0 {d d1 : Nat → Nat → Int} {L : Nat} (hs : SameD d d1) (hL : L < 2) : PenEq d d1 L := by
  intro p q
  refine ⟨fun j hj => hs.1 j hj, fun k k1 k8 j hj => ?_⟩
  rcases (show k = 1 ∨ k = 2 ∨ k = 3 ∨ 4 ≤ k by omega) with rfl | rfl | rfl | c
  · show upZ (d1 1) L p j = upZ (d 1) L p j
    unfold upZ
    by_cases c : j = L
    · rw [if_pos c, if_pos c]
    · rw [if_neg c, if_neg c]; exact hs.2 1 (by omega) (by omega) j hj
  · show upZ (d1 2) L q j = upZ (d 2) L q j
    unfold upZ
    by_cases c : j = L
    · rw [if_pos c, if_pos c]
    · rw [if_neg c, if_neg c]; exact hs.2 2 (by omega) (by omega) j hj
  · show d1 3 j = upZ (d 3) L (d 3 L) j
    unfold upZ
    by_cases c : j = L
    · rw [if_pos c, c]; exact hs.2 3 (by omega) (by omega) L (by rw [show sz 3 = 2 from rfl]; exact hL)
    · rw [if_neg c]; exact hs.2 3 (by omega) (by omega) j hj
  · rw [dlet_ot (Or.inr (by omega)), dput_ne (by omega), dput_ne (by omega)]
    exact hs.2 k k1 k8 j hj
theorem penEq_st {d dt : Nat → Nat → Int} {L : Nat} (hs : PenEq d dt L) (p q : Int) : PenEq d (dput (dput dt 1 L p) 2 L q) L := by
  intro p' q'
  have e : dput (dput (dput (dput dt 1 L p) 2 L q) 1 L p') 2 L q' = dput (dput dt 1 L p') 2 L q' := by
    funext k
    rcases (show k = 1 ∨ k = 2 ∨ (k ≠ 1 ∧ k ≠ 2) by omega) with rfl | rfl | ⟨c1, c2⟩
    · show upZ (upZ (dt 1) L p) L p' = upZ (dt 1) L p'
      exact upZ_up _ _ _ _
    · show upZ (upZ (dt 2) L q) L q' = upZ (dt 2) L q'
      exact upZ_up _ _ _ _
    · rw [dput_ne c2, dput_ne c1, dput_ne c2, dput_ne c1, dput_ne c2, dput_ne c1]
  rw [e]
  exact hs p' q'