/-! find, pens, margins, decisions, simulations, slots -/
section Bs1
variable {d e : Nat → Nat → Int}
theorem le_pdb (h : LE d e) (hO : OkD d) {L : Nat} (hL : L < 2) {u v : Nat} (hu : u < 4) (hv : v < 9) : pdb e L u v = pdb d L u v := by
  have g := pdb_in hO hL (u := u) (v := v) (by omega) (by omega)
  unfold pdb
  rw [(h.2.1 L hL).2.2]
  exact le_dbt (le_let h) g.1
theorem le_pf (h : LE d e) (hO : OkD d) {L : Nat} (hL : L < 2) {u : Nat} (hu : u < 4) {s : Int × Int} : ∀ v : Nat, v ≤ 9 → pf st6 e L u v s = pf st6 d L u v s
  | 0, _ => rfl
  | v + 1, hv => by
    show st6 (pdb e L u v) (10 * u + v) (pf st6 e L u v s) = st6 (pdb d L u v) (10 * u + v) (pf st6 d L u v s)
    rw [le_pf h hO hL hu v (by omega), le_pdb h hO hL hu (by omega)]
theorem le_po (h : LE d e) (hO : OkD d) {L : Nat} (hL : L < 2) {s : Int × Int} : ∀ u : Nat, u ≤ 4 → po st6 e L u s = po st6 d L u s
  | 0, _ => rfl
  | u + 1, hu => by
    show pf st6 e L u 9 (po st6 e L u s) = pf st6 d L u 9 (po st6 d L u s)
    rw [le_po h hO hL u (by omega), le_pf h hO hL (by omega) 9 (by omega)]
def bpv (d : Nat → Nat → Int) (L : Nat) : Int := (po st6 d L 4 (-9, 163)).1
/-- the pens seen so far, the best of them -/
def BI (d : Nat → Nat → Int) (L i j : Nat) (s : Int × Int) : Prop := (s = (-9, 163) ∧ i = 0 ∧ j = 0) ∨ ∃ u v : Nat, u < 4 ∧ v < 9 ∧ (u < i ∨ (u = i ∧ v < j)) ∧ s = (10 * (u : Int) + v, pdb d L u v) ∧ ∀ a c : Nat, a < 4 → c < 9 → (a < i ∨ (a = i ∧ c < j)) → pdb d L u v ≤ pdb d L a c ∧ (pdb d L a c = pdb d L u v → 10 * u + v ≤ 10 * a + c)
theorem bi_st (hO : OkD d) {L : Nat} (hL : L < 2) {i j : Nat} (hi : i < 4) (hj : j < 9) {s : Int × Int} (h : BI d L i j s) : BI d L i (j + 1) (st6 (pdb d L i j) (10 * i + j) s) := by
  have g := pdb_in hO hL (u := i) (v := j) (by omega) (by omega)
  have new : (∀ a c : Nat, a < 4 → c < 9 → (a < i ∨ (a = i ∧ c < j)) → pdb d L i j < pdb d L a c) → BI d L i (j + 1) (10 * (i : Int) + j, pdb d L i j) := fun hn => Or.inr ⟨i, j, hi, hj, by omega, rfl, fun a c ha hc hac => by
    by_cases e : a = i ∧ c = j
    · rw [e.1, e.2]; exact ⟨Int.le_refl _, fun _ => by omega⟩
    · have := hn a c ha hc (by omega)
      exact ⟨by omega, fun z => by omega⟩⟩
  unfold st6
  rcases h with ⟨e, rfl, rfl⟩ | ⟨u, v, hu, hv, huv, e, hb⟩
  · rw [e, if_neg (by show ¬ ((163 : Int) ≤ _); omega)]
    exact new (fun a c ha hc hac => by omega)
  · rw [e]
    by_cases c : pdb d L u v ≤ pdb d L i j
    · rw [if_pos c]
      refine Or.inr ⟨u, v, hu, hv, by omega, rfl, fun a c' ha hc' hac => ?_⟩
      by_cases q : a = i ∧ c' = j
      · rw [q.1, q.2]
        exact ⟨c, fun z => by omega⟩
      · exact hb a c' ha hc' (by omega)
    · rw [if_neg c]
      refine new (fun a c' ha hc' hac => ?_)
      have := (hb a c' ha hc' hac).1
      omega
theorem bi_pf (hO : OkD d) {L : Nat} (hL : L < 2) {i : Nat} (hi : i < 4) {s : Int × Int} (h : BI d L i 0 s) : ∀ j : Nat, j ≤ 9 → BI d L i j (pf st6 d L i j s)
  | 0, _ => h
  | j + 1, hj => bi_st hO hL hi (by omega) (bi_pf hO hL hi h j (by omega))
theorem bi_up {L i : Nat} {s : Int × Int} (h : BI d L i 9 s) : BI d L (i + 1) 0 s := by
  rcases h with ⟨-, -, z⟩ | ⟨u, v, hu, hv, huv, e, hb⟩
  · omega
  · exact Or.inr ⟨u, v, hu, hv, by omega, e, fun a c ha hc hac => hb a c ha hc (by omega)⟩
theorem bi_po (hO : OkD d) {L : Nat} (hL : L < 2) : ∀ i : Nat, i ≤ 4 → BI d L i 0 (po st6 d L i (-9, 163))
  | 0, _ => Or.inl ⟨rfl, rfl, rfl⟩
  | i + 1, hi => bi_up (bi_pf hO hL (by omega) (bi_po hO hL i (by omega)) 9 (by omega))
theorem bp_spec (hO : OkD d) {L : Nat} (hL : L < 2) : ∃ u v : Nat, u < 4 ∧ v < 9 ∧ bpv d L = 10 * (u : Int) + v ∧ ∀ a c : Nat, a < 4 → c < 9 → pdb d L u v ≤ pdb d L a c ∧ (pdb d L a c = pdb d L u v → 10 * u + v ≤ 10 * a + c) := by
  rcases bi_po hO hL 4 (by omega) with ⟨-, z, -⟩ | ⟨u, v, hu, hv, huv, e, hb⟩
  · omega
  · exact ⟨u, v, hu, hv, by unfold bpv; rw [e], fun a c ha hc => hb a c ha hc (by omega)⟩
theorem le_gmv (h : LE d e) (hO : OkD d) : ∀ m : Nat, m ≤ 10 → gmv e m = gmv d m
  | 0, _ => rfl
  | m + 1, hm => by
    have em : mdb e m = mdb d m := le_dbt (le_d0 h (Or.inl rfl)) (OkD_margin hO (by omega) (by omega))
    show (if mdb e m = 0 then (m : Int) else gmv e m) = if mdb d m = 0 then (m : Int) else gmv d m
    rw [em, le_gmv h hO m (by omega)]
theorem gmv_spec : ∀ m : Nat, (gmv d m = -9 ∧ ∀ j : Nat, j < m → mdb d j ≠ 0) ∨ ∃ g : Nat, gmv d m = g ∧ g < m ∧ mdb d g = 0 ∧ ∀ j : Nat, g < j → j < m → mdb d j ≠ 0
  | 0 => Or.inl ⟨rfl, fun j hj => by omega⟩
  | m + 1 => by
    have e : gmv d (m + 1) = if mdb d m = 0 then (m : Int) else gmv d m := rfl
    rw [e]
    by_cases c : mdb d m = 0
    · rw [if_pos c]
      exact Or.inr ⟨m, rfl, by omega, c, fun j h1 h2 => by omega⟩
    · rw [if_neg c]
      rcases gmv_spec m with ⟨a, b⟩ | ⟨g, a, b, c1, c2⟩
      · refine Or.inl ⟨a, fun j hj => ?_⟩
        by_cases q : j = m
        · rw [q]; exact c
        · exact b j (by omega)
      · refine Or.inr ⟨g, a, by omega, c1, fun j h1 h2 => ?_⟩
        by_cases q : j = m
        · rw [q]; exact c
        · exact c2 j h1 (by omega)
def bdv (d : Nat → Nat → Int) (L : Nat) : Int := (cf (bs6 d L) d 81 (-9, -1)).1
theorem le_bs6 (h : LE d e) {L : Nat} {x y : Int} (g : inG d x y) (s : Int × Int) : bs6 e L x y s = bs6 d L x y s := by
  have e1 : ftd e L x y = ftd d L x y := by
    unfold ftd
    rw [h.cc g, le_dec h g (by omega), le_dec h g (by omega)]
  have e2 : dbt e x y = dbt d x y := by unfold dbt; rw [le_own h g, h.cc g]
  unfold bs6
  rw [e1, e2]
theorem le_cf (h : LE d e) {L : Nat} {s : Int × Int} : ∀ c : Nat, cf (bs6 e L) e c s = cf (bs6 d L) d c s
  | 0 => rfl
  | c + 1 => by
    unfold cf
    rw [h.1 0 (by omega), h.1 1 (by omega), le_cf h c]
    by_cases g : ((c / 9 : Nat) : Int) < d 0 0 ∧ ((c % 9 : Nat) : Int) < d 0 1
    · rw [if_pos g, if_pos g, le_bs6 h ⟨by omega, g.1, by omega, g.2⟩]
    · rw [if_neg g, if_neg g]
def CI (d : Nat → Nat → Int) (L c : Nat) (s : Int × Int) : Prop := (s = (-9, -1) ∧ ∀ x y : Int, inG d x y → 9 * x + y < c → ftd d L x y = -9) ∨ ∃ x y : Int, inG d x y ∧ ftd d L x y ≠ -9 ∧ s = (100 * x + 10 * y + ftd d L x y, dbt d x y) ∧ ∀ X Y : Int, inG d X Y → 9 * X + Y < c → ftd d L X Y ≠ -9 → dbt d X Y ≤ dbt d x y
theorem ci_all (hO : OkD d) {L : Nat} : ∀ c : Nat, CI d L c (cf (bs6 d L) d c (-9, -1))
  | 0 => Or.inl ⟨rfl, fun x y g hl => by have := hO.g9 g; omega⟩
  | c + 1 => by
    have ih := ci_all hO (L := L) c
    have nx : ∀ X Y : Int, inG d X Y → 9 * X + Y < (c + 1 : Nat) → 9 * X + Y < c ∨ (X = ((c / 9 : Nat) : Int) ∧ Y = ((c % 9 : Nat) : Int)) := fun X Y g hl => by have := hO.g9 g; omega
    unfold cf
    generalize cf (bs6 d L) d c (-9, -1) = s9 at ih ⊢
    by_cases g : ((c / 9 : Nat) : Int) < d 0 0 ∧ ((c % 9 : Nat) : Int) < d 0 1
    · have gg : inG d ((c / 9 : Nat) : Int) ((c % 9 : Nat) : Int) := ⟨by omega, g.1, by omega, g.2⟩
      have hb := dbt_le hO gg
      rw [if_pos g]
      unfold bs6 u6
      by_cases f : ftd d L ((c / 9 : Nat) : Int) ((c % 9 : Nat) : Int) = -9
      · rw [if_pos f]
        rcases ih with ⟨e, hn⟩ | ⟨x, y, g0, f0, e, hm⟩
        · refine Or.inl ⟨e, fun X Y G hl => ?_⟩
          rcases nx X Y G hl with q | ⟨q1, q2⟩
          · exact hn X Y G q
          · rw [q1, q2]; exact f
        · refine Or.inr ⟨x, y, g0, f0, e, fun X Y G hl F => ?_⟩
          rcases nx X Y G hl with q | ⟨q1, q2⟩
          · exact hm X Y G q F
          · rw [q1, q2] at F; exact absurd f F
      · rw [if_neg f]
        rcases ih with ⟨e, hn⟩ | ⟨x, y, g0, f0, e, hm⟩
        · rw [e, if_neg (by show ¬ (_ ≤ (-1 : Int)); omega)]
          refine Or.inr ⟨_, _, gg, f, rfl, fun X Y G hl F => ?_⟩
          rcases nx X Y G hl with q | ⟨q1, q2⟩
          · exact absurd (hn X Y G q) F
          · rw [q1, q2]; exact Int.le_refl _
        · rw [e]
          by_cases c2 : dbt d ((c / 9 : Nat) : Int) ((c % 9 : Nat) : Int) ≤ dbt d x y
          · rw [if_pos c2]
            refine Or.inr ⟨x, y, g0, f0, rfl, fun X Y G hl F => ?_⟩
            rcases nx X Y G hl with q | ⟨q1, q2⟩
            · exact hm X Y G q F
            · rw [q1, q2]; exact c2
          · rw [if_neg c2]
            refine Or.inr ⟨_, _, gg, f, rfl, fun X Y G hl F => ?_⟩
            rcases nx X Y G hl with q | ⟨q1, q2⟩
            · have := hm X Y G q F
              omega
            · rw [q1, q2]; exact Int.le_refl _
    · rw [if_neg g]
      rcases ih with ⟨e, hn⟩ | ⟨x, y, g0, f0, e, hm⟩
      · refine Or.inl ⟨e, fun X Y G hl => ?_⟩
        rcases nx X Y G hl with q | ⟨q1, q2⟩
        · exact hn X Y G q
        · exact absurd ⟨by rw [← q1]; exact G.2.1, by rw [← q2]; exact G.2.2.2⟩ g
      · refine Or.inr ⟨x, y, g0, f0, e, fun X Y G hl F => ?_⟩
        rcases nx X Y G hl with q | ⟨q1, q2⟩
        · exact hm X Y G q F
        · exact absurd ⟨by rw [← q1]; exact G.2.1, by rw [← q2]; exact G.2.2.2⟩ g
theorem ftd_can (hO : OkD d) {L : Nat} {x y : Int} (h : ftd d L x y ≠ -9) : 0 ≤ ftd d L x y ∧ ftd d L x y < cn d x y ∧ ftd d L x y ≤ 1 ∧ dec d x y (ftd d L x y) = -9 ∧ dec d x y (1 - ftd d L x y) ≠ L := by
  unfold ftd at h ⊢
  by_cases c1 : 0 < cn d x y ∧ (dec d x y 0 = -9 ∧ dec d x y 1 ≠ L)
  · rw [if_pos c1]
    exact ⟨by omega, c1.1, by omega, c1.2.1, c1.2.2⟩
  · rw [if_neg c1] at h ⊢
    by_cases c2 : 1 < cn d x y ∧ (dec d x y 1 = -9 ∧ dec d x y 0 ≠ L)
    · rw [if_pos c2]
      exact ⟨by omega, c2.1, by omega, c2.2.1, c2.2.2⟩
    · rw [if_neg c2] at h
      exact absurd rfl h
theorem dbt_pos (hO : OkD d) {L : Nat} (hL : L < 2) {x y : Int} (g : inG d x y) (h : 0 < dbt d x y) : ftd d L x y ≠ -9 := by
  unfold dbt at h
  by_cases c : own d x y = -9
  · rw [if_pos c] at h
    have h0 := own9 hO g (i := 0) (by omega) (by omega) h c
    have h1 := own9 hO g (i := 1) (by omega) (by omega) h c
    unfold ftd
    rw [if_pos ⟨h, h0, by omega⟩]
    omega
  · rw [if_neg c] at h
    omega
/-- no decision clears more -/
theorem bd_spec (hO : OkD d) {L : Nat} (hL : L < 2) (h : bdv d L ≠ -9) : ∃ x y i : Int, inG d x y ∧ 0 ≤ i ∧ i ≤ 1 ∧ i < cn d x y ∧ dec d x y i = -9 ∧ dec d x y (1 - i) ≠ L ∧ bdv d L = 100 * x + 10 * y + i ∧ (gsum d (dbt d) ≠ 0 → 0 < dbt d x y) := by
  rcases ci_all hO (L := L) 81 with ⟨e, -⟩ | ⟨x, y, g, f, e, hm⟩
  · exact absurd (show bdv d L = -9 by unfold bdv; rw [e]) h
  · obtain ⟨a1, a2, a3, a4, a5⟩ := ftd_can hO f
    refine ⟨x, y, _, g, a1, a3, a2, a4, a5, by unfold bdv; rw [e], fun hne => ?_⟩
    apply Classical.byContradiction
    intro hn
    apply hne
    obtain ⟨w1, w2, w3, w4⟩ := hO.wh
    unfold gsum
    refine zsum_zero _ (fun i hi => zsum_zero _ (fun j hj => ?_))
    have G : inG d i j := ⟨by omega, by omega, by omega, by omega⟩
    have hb := dbt_le hO G
    apply Classical.byContradiction
    intro hz
    have hp : 0 < dbt d i j := by omega
    have := hm i j G (by have := hO.g9 G; omega) (dbt_pos hO hL G hp)
    omega
theorem le_rs (h : LE d e) (hO : OkD d) {z : Int} (z1 : 0 ≤ z) : LE (rs d z) (rs e z) := by
  have g := rs_in hO z1
  have hcn := hO.cn g
  obtain ⟨o1, g1, c1⟩ := rs1_ok hO z1
  have e0 := h.1 0 (by omega)
  have e1 := h.1 1 (by omega)
  have l1 : LE (rs1 d z) (rs1 e z) := by
    unfold rs1
    rw [e0, e1, h.cc g]
    by_cases c : cn d (z % d 0 0) (z / 16 % d 0 1) < 2
    · rw [if_pos c, if_pos c]; exact h
    · rw [if_neg c, if_neg c]; exact le_rem h hO g (by omega) (by omega)
  unfold rs
  rw [e0, e1]
  exact le_add l1 o1 g1 c1
theorem le_dN (h : LE d e) (hO : OkD d) (x : Int64) : ∀ k : Nat, LE (dN d x k) (dN e x k)
  | 0 => h
  | k + 1 => le_rs (le_dN h hO x k) (dN_ok hO x k) (zr_in _).1
def smv (d : Nat → Nat → Int) (y : Int64) (m : Nat) : Int := 1000 * (rd (dN d y m) 0 0 0 + rd (dN d y m) 1 0 0) + gsum (dN d y m) (dbt (dN d y m))
end Bs1
def saved (σ : Sg) (i : Nat) : Sg := (σ.1, σ.2.1, σ.2.2.1, upZ σ.2.2.2.1 i 1, fun j => if j = i then σ.1 else σ.2.2.2.2 j)
def restored (σ : Sg) (i : Nat) : Sg := (σ.2.2.2.2 i, 0, σ.2.2.1, σ.2.2.2.1, σ.2.2.2.2)
section Ob5
variable {T : zT} {hz h h' : zH} {b : Nat} {σ τ : Sg}
theorem k_best (O : Ob T hz h b σ) {L : Nat} (hL : L < 2) : Rq T hz b (FL_tryBest T b (iZ L) h) (bpv σ.1 L) σ := by
  obtain ⟨n, tx, hn, d, nxt, dd, fl, ds, S, ⟨hO, hl⟩, R⟩ := O
  have hO' := hl.ok hO
  obtain ⟨h1, d1, e1, hs, M1, S1⟩ := S.tt
  obtain ⟨h2, e2, S2⟩ := bp6_out S1 hO' hL (penEq0 hs hL) M1 (s0 := (-9, 163)) ⟨by show (-9 : Int) ≤ -9; omega, by show (-9 : Int) ≤ 1000; omega, by show (0 : Int) ≤ 163; omega, by show (163 : Int) ≤ 163; omega⟩ (fun (x34 : Int32) (h35 : zH) => some (Except.ok (ε := String) x34, h35))
  rw [le_po hl hO hL 4 (by omega)] at e2
  unfold FL_tryBest
  refine rq_ok (h' := h2) ?_ ⟨n, tx, hn, d, nxt, dd, fl, ds, S2, ⟨hO, hl⟩, R⟩
  unfold FX6_bestPen
  rw [cs_zo S.cs0, zsn, chkLet_t (by omega) (by omega), zbx_ok, cs_r4 S.cs0, zsn, cs_r3 S.cs0, zsn, e1, zsn, qm9, q163, q0]
  exact e2
theorem k_best_no (O : Ob T hz h b σ) : Rq T hz b (FL_tryBest T b (iZ 2) h) (-9999001) σ := by
  have O9 := O
  obtain ⟨n, tx, hn, d, nxt, dd, fl, ds, S, R⟩ := O
  unfold FL_tryBest
  refine rq_ex (E := "java/lang/IndexOutOfBoundsException") (h' := h) ?_ (by rw [if_pos rfl, qI1]) O9
  unfold FX6_bestPen
  rw [cs_zo S.cs0, zsn, chkLet_f (by omega) (by omega) (by omega), zbx_er]
theorem k_greatest (O : Ob T hz h b σ) : Rq T hz b (FX6_greatestMargin T b h) (gmv σ.1 10) σ := by
  obtain ⟨n, tx, hn, d, nxt, dd, fl, ds, S, ⟨hO, hl⟩, R⟩ := O
  have hO' := hl.ok hO
  obtain ⟨h1, d1, e1, hs, M1, S1⟩ := S.tt
  obtain ⟨h2, e2, S2⟩ := gm6 hO' (fun (x13 : Int32) (h14 : zH) => some (x13, h14)) (fun (h15 : zH) => some (iZ (-9), h15)) 10 FUEL h1 d1 (by omega) (by unfold FUEL; omega) (marEq0 hs) M1 S1
  rw [le_gmv hl hO 10 (by omega)] at e2
  refine ⟨h2, ?_, n, tx, hn, d, nxt, dd, fl, ds, S2, ⟨hO, hl⟩, R⟩
  unfold FX6_greatestMargin
  rw [cs_zo S.cs0, zsn, cs_r4 S.cs0, zsn, cs_r3 S.cs0, zsn, e1, zsn, qm9, q9]
  refine Eq.trans (show _ = _ from e2) ?_
  by_cases c : gmv σ.1 10 = -9
  · rw [if_pos c, c]
  · rw [if_neg c]
theorem k_clears (O : Ob T hz h b σ) {L : Nat} (hL : L < 2) : Rq T hz b (FL_tryClears T b (iZ L) h) (bdv σ.1 L) σ := by
  have O9 := O
  obtain ⟨n, tx, hn, d, nxt, dd, fl, ds, S, ⟨hO, hl⟩, R⟩ := O
  have hO' := hl.ok hO
  have h6 : bd3 (-9, -1) := ⟨by show (-9 : Int) ≤ -9; omega, by show (-9 : Int) ≤ 1000; omega, by show (-1 : Int) ≤ -1; omega, by show (-1 : Int) ≤ 162; omega⟩
  have e2 := bd6_out S hO' hL h6 (fun (x34 : Int32) => some (Except.ok (ε := String) x34, h))
  rw [le_cf hl 81] at e2
  unfold FL_tryClears
  refine rq_ok (h' := h) ?_ O9
  unfold FX6_bestDecision
  rw [cs_zo S.cs0, zsn, chkLet_t (by omega) (by omega), zbx_ok, qm9, qm1, q0]
  exact e2
theorem k_clears_no (O : Ob T hz h b σ) : Rq T hz b (FL_tryClears T b (iZ (-1)) h) (-9999001) σ := by
  have O9 := O
  obtain ⟨n, tx, hn, d, nxt, dd, fl, ds, S, R⟩ := O
  unfold FL_tryClears
  refine rq_ex (E := "java/lang/IndexOutOfBoundsException") (h' := h) ?_ (by rw [if_pos rfl, qI1]) O9
  unfold FX6_bestDecision
  rw [cs_zo S.cs0, zsn, chkLet_f (by omega) (by omega) (by omega), zbx_er]
theorem k_simulate (O : Ob T hz h b σ) (y : Int64) {m : Nat} (m1 : 1 ≤ m) (m2 : m ≤ 99) : Rq T hz b (FL_trySimulate T b y (iZ m) h) (smv σ.1 y m) σ := by
  obtain ⟨n, tx, hn, d, nxt, dd, fl, ds, S, ⟨hO, hl⟩, R⟩ := O
  have hO' := hl.ok hO
  obtain ⟨h1, e, e1, hs, M1, S1⟩ := S.tt
  have hOe := OkD_same hs hO'
  have hle : LE σ.1 e := hl.trans (LE.same hs hO')
  have hln := le_dN hle hO y m
  have hoN := dN_ok hOe y m
  obtain ⟨h2, e2, M2, S2⟩ := sim6 S1 M1 hOe y (m := m) (by omega) (fun (h15 : zH) => (zgr h15 b 6 8).bind fun x16 => (zgr h15 b 6 4).bind fun x17 => (zgr h15 b 6 4).bind fun x18 => (zgi h15 x18 3 3).bind fun x19 => zb2 (FX2_readLetter T x16 x17 (iZ 0) x19 h15) fun x21 h22 => (zgr h22 b 6 8).bind fun x23 => (zgr h22 b 6 4).bind fun x24 => (zgr h22 b 6 4).bind fun x25 => (zgi h22 x25 3 3).bind fun x26 => zb2 (FX2_readLetter T x23 x24 (iZ 1) x26 h22) fun x28 h29 => (zgr h29 b 6 4).bind fun x30 => (FX3_countDoubtful T x30 h29).bind fun x32 => some (Except.ok (ε := String) (((iZ 1000) * (x21 + x28)) + x32), h29))
  obtain ⟨h3, w0, e3, R3, M3, S3, N3⟩ := S2.rt M2 hoN (L := 0) (by omega)
  obtain ⟨h4, w1, e4, R4, M4, S4, N4⟩ := S3.rt M3 hoN (L := 1) (by omega)
  have e3' : FX2_readLetter T (b + 336) (b + 21) (iZ 0) (iZ (dN e y m 0 3)) h2 = _ := e3
  have e4' : FX2_readLetter T (b + 336) (b + 21) (iZ 1) (iZ (dN e y m 0 3)) h3 = _ := e4
  have r3 := rd_of (L := 0) hoN N3
  have r4 := rd_of (L := 1) hoN N4
  rw [le_rd hln (by omega)] at r3 r4
  have v3 : wall (dN e y m) ((0 : Nat) : Int) (dN e y m 3 0) w0 (nL (dN e y m) (dN e y m 3 0)) 0 0 = rd (dN σ.1 y m) 0 0 0 := r3.1
  have v4 : wall (dN e y m) ((1 : Nat) : Int) (dN e y m 3 1) w1 (nL (dN e y m) (dN e y m 3 1)) 0 0 = rd (dN σ.1 y m) 1 0 0 := r4.1
  rw [v3] at e3'
  rw [v4] at e4'
  have gp : (1 : Int) ≤ m ∧ (m : Int) ≤ 99 := by omega
  unfold FL_trySimulate
  refine rq_ok (h' := h4) ?_ ⟨n, tx, hn, d, nxt, dd, fl, ds, S4, ⟨hO, hl⟩, R⟩
  unfold FX6_simulate
  rw [cs_zo S.cs0, zsn, q1, q99, chkArg_t (by omega) (by omega) gp, zbx_ok, cs_r4 S.cs0, zsn, cs_r3 S.cs0, zsn, e1, zsn, q0, q1000]
  refine Eq.trans (show _ = _ from e2) ?_
  show ((zgr h2 b 6 8).bind fun x16 => (zgr h2 b 6 4).bind fun x17 => (zgr h2 b 6 4).bind fun x18 => (zgi h2 x18 3 3).bind fun x19 => zb2 (FX2_readLetter T x16 x17 (iZ 0) x19 h2) fun x21 h22 => (zgr h22 b 6 8).bind fun x23 => (zgr h22 b 6 4).bind fun x24 => (zgr h22 b 6 4).bind fun x25 => (zgi h22 x25 3 3).bind fun x26 => zb2 (FX2_readLetter T x23 x24 (iZ 1) x26 h22) fun x28 h29 => (zgr h29 b 6 4).bind fun x30 => (FX3_countDoubtful T x30 h29).bind fun x32 => some (Except.ok (ε := String) (((iZ 1000) * (x21 + x28)) + x32), h29)) = _
  rw [cs_r8 S2.cs0, zsn, cs_r4 S2.cs0, zsn, zsn, sh_g3 M2, zsn, e3', zb2n, cs_r8 S3.cs0, zsn, cs_r4 S3.cs0, zsn, zsn, sh_g3 M3, zsn, e4', zb2n, cs_r4 S4.cs0, zsn, countDoubtful_eq M4 hoN, zsn, iZ_add, iZ_mul, iZ_add, le_dbt hln (dN_ok hO y m)]
  rfl
theorem k_simulate_no (O : Ob T hz h b σ) (y : Int64) {m : Int} (hm : m = 0 ∨ m = 100) : Rq T hz b (FL_trySimulate T b y (iZ m) h) (-9999002) σ := by
  have O9 := O
  obtain ⟨n, tx, hn, d, nxt, dd, fl, ds, S, R⟩ := O
  unfold FL_trySimulate
  refine rq_ex (E := "java/lang/IllegalArgumentException") (h' := h) ?_ (by rw [if_pos rfl, qI2]) O9
  unfold FX6_simulate
  rw [cs_zo S.cs0, zsn, q1, q99, chkArg_f (by omega) (by omega) (by omega) (by omega) (by omega) (by omega) (by omega), zbx_er]
theorem k_save (O : Ob T hz h b σ) {i : Nat} (hi : i < 2) : Rq T hz b (FL_trySave T b (iZ i) h) (gsum σ.1 (cn σ.1)) (saved σ i) := by
  obtain ⟨n, tx, hn, d, nxt, dd, fl, ds, S, ⟨hO, hl⟩, hc, hh, hf⟩ := O
  have hO' := hl.ok hO
  obtain ⟨h1, d1, e1, F1, hs, f1⟩ := store_eq S.sf0 (by omega) (i := i) (by omega) (by omega) S.sh0 (by omega)
  have S1 := S.slots F1 f1
  unfold FL_trySave
  refine rq_ok (h' := h1) ?_ ⟨n, tx, hn, d, nxt, dd, fl, ddup ds i d1, S1, ⟨hO, hl⟩, hc, hh, fun j hj => ?_⟩
  · unfold FX6_save
    rw [cs_zo S.cs0, zsn, chkSlot_t (by omega) (by omega), zbx_ok, cs_r7 S.cs0, zsn, cs_r3 S.cs0, zsn, e1, zsn, cs_r3 S1.cs0, zsn, countMarks_eq S1.sh0 hO', zsn, le_cnt hl hO]
  · show (upZ σ.2.2.2.1 i 1 j = 0 ∨ upZ σ.2.2.2.1 i 1 j = 1) ∧ (upZ σ.2.2.2.1 i 1 j = 1 → OkD (if j = i then σ.1 else σ.2.2.2.2 j) ∧ LE (if j = i then σ.1 else σ.2.2.2.2 j) (ddup ds i d1 j))
    unfold ddup
    by_cases c : j = i
    · rw [upZ_eq _ _ c, if_pos c, if_pos c]
      exact ⟨Or.inr rfl, fun _ => ⟨hO, hl.trans (LE.same hs hO')⟩⟩
    · rw [upZ_ne _ _ c, if_neg c, if_neg c]
      exact hf j hj
theorem k_save_no (O : Ob T hz h b σ) : Rq T hz b (FL_trySave T b (iZ 2) h) (-9999001) σ := by
  have O9 := O
  obtain ⟨n, tx, hn, d, nxt, dd, fl, ds, S, R⟩ := O
  unfold FL_trySave
  refine rq_ex (E := "java/lang/IndexOutOfBoundsException") (h' := h) ?_ (by rw [if_pos rfl, qI1]) O9
  unfold FX6_save
  rw [cs_zo S.cs0, zsn, chkSlot_f (by omega) (by omega) (by omega), zbx_er]
theorem k_restore (O : Ob T hz h b σ) {i : Nat} (hi : i < 2) (gf : σ.2.2.2.1 i = 1) : Rq T hz b (FL_tryRestore T b (iZ i) h) (gsum (σ.2.2.2.2 i) (cn (σ.2.2.2.2 i))) (restored σ i) := by
  obtain ⟨n, tx, hn, d, nxt, dd, fl, ds, S, ⟨hO, hl⟩, hc, hh, hf⟩ := O
  obtain ⟨b1, b2⟩ := hf i hi
  obtain ⟨p1, p2⟩ := b2 gf
  have p3 := p2.ok p1
  have e6 : FX4_holds T (b + 298) (iZ i) h = some (iZ (σ.2.2.2.1 i)) := holds_eq S.sf0 (by omega) (by omega) (by omega) b1
  obtain ⟨h1, d1, e1, M1, hs, f1⟩ := fetch_eq S.sf0 (by omega) (i := i) (by omega) (by omega) gf S.sh0 (by omega)
  have S1 := S.pres M1 f1
  obtain ⟨h2, e2, H2, f2⟩ := hs_s0 S1.hs0 0
  have S2 := S1.hist H2 (fun q hq => f2 q (by omega))
  have l9 : LE (σ.2.2.2.2 i) d1 := p2.trans (LE.same hs p3)
  unfold FL_tryRestore
  refine rq_ok (h' := h2) ?_ ⟨n, tx, hn, d1, nxt, dd, fl, ds, S2, ⟨p1, l9⟩, ⟨by show (0 : Int) ≤ 0; omega, by show (0 : Int) ≤ 14; omega, hc.2.2.1, hc.2.2.2⟩, fun j hj => ?_, hf⟩
  · unfold FX6_restore FX0_forget
    rw [cs_zo S.cs0, zsn, chkSlot_t (by omega) (by omega), zbx_ok, cs_r7 S.cs0, zsn, e6, zsn, gf, q0, if_neg (by decide), zsn, cs_r3 S.cs0, zsn, e1, zsn, cs_r6 S1.cs0, zsn, hs_zo S1.hs0, zsn, e2, zsn, zsn, cs_r3 S2.cs0, zsn, countMarks_eq S2.sh0 (l9.ok p1), zsn, le_cnt l9 p1]
  · have : (j : Int) < 0 := hj
    omega
theorem k_restore_st (O : Ob T hz h b σ) {i : Nat} (hi : i < 2) (gf : σ.2.2.2.1 i ≠ 1) : Rq T hz b (FL_tryRestore T b (iZ i) h) (-9999003) σ := by
  have O9 := O
  obtain ⟨n, tx, hn, d, nxt, dd, fl, ds, S, ⟨hO, hl⟩, hc, hh, hf⟩ := O
  obtain ⟨b1, b2⟩ := hf i hi
  have gf0 : σ.2.2.2.1 i = 0 := by omega
  have e6 : FX4_holds T (b + 298) (iZ i) h = some (iZ (σ.2.2.2.1 i)) := holds_eq S.sf0 (by omega) (by omega) (by omega) b1
  unfold FL_tryRestore
  refine rq_ex (E := "java/lang/IllegalStateException") (h' := h) ?_ (by rw [if_neg (by decide), if_pos rfl, qI3]) O9
  unfold FX6_restore
  rw [cs_zo S.cs0, zsn, chkSlot_t (by omega) (by omega), zbx_ok, cs_r7 S.cs0, zsn, e6, zsn, gf0, q0, if_pos rfl]
theorem k_restore_no (O : Ob T hz h b σ) : Rq T hz b (FL_tryRestore T b (iZ (-1)) h) (-9999001) σ := by
  have O9 := O
  obtain ⟨n, tx, hn, d, nxt, dd, fl, ds, S, R⟩ := O
  unfold FL_tryRestore
  refine rq_ex (E := "java/lang/IndexOutOfBoundsException") (h' := h) ?_ (by rw [if_pos rfl, qI1]) O9
  unfold FX6_restore
  rw [cs_zo S.cs0, zsn, chkSlot_f (by omega) (by omega) (by omega), zbx_er]
theorem k_find (O : Ob T hz h b σ) {L : Nat} (hL : L < 2) {s : Int} (s1 : 0 ≤ s) (s2 : s ≤ 26) : ∃ v : Int, isFirst (fun i => wsg (rd σ.1 L) i 0 = s) (rd σ.1 L 0 0).toNat v ∧ Rq T hz b (FL_tryFind T b (iZ L) (iZ 1) (lZ s) h) v σ := by
  obtain ⟨n, tx, hn, d, nxt, dd, fl, ds, S, ⟨hO, hl⟩, R⟩ := O
  have hO' := hl.ok hO
  have ey : (lZ s).toInt = s := lZ_toInt (by omega) (by omega)
  obtain ⟨h1, wn, e1, B1, ew, S1⟩ := split6 S (m := 1) (by omega) (by omega) (lZ s)
  have p0 : p100 0 = 1 := rfl
  have p1 : p100 1 = 100 := by decide
  have hp : pI (lZ s) 0 = s := by
    have := (pI_eq s1 (by omega) 0).1
    rw [this, p0]
    omega
  have hy : 0 ≤ (lZ s).toInt ∧ rI (lZ s) 1 = 0 ∧ ∀ t : Nat, t < 1 → ¬ 26 < pI (lZ s) t := by
    refine ⟨by omega, ?_, fun t ht => ?_⟩
    · have ez := rI_eq s1 (by omega) 1
      rw [p1, show s / 100 = 0 by omega] at ez
      exact ez
    · rw [show t = 0 by omega, hp]; omega
  rw [ind_t hy] at e1
  have hw : ∀ t : Nat, t < 1 → wn (1 - 1 - t) = s / p100 t % 100 := fun t ht => by
    rw [ew t ht, show t = 0 by omega, hp, p0]
    omega
  have S3 : ∃ w, RdAt T h1 (b + 336) w ∧ RdIn w := S1.2.2.1 3 (by omega)
  obtain ⟨w, hR, hI⟩ := S3
  obtain ⟨h2, w0, e2, R1, f1, N1⟩ := readLetter_eq hR hI S1.sh0 hO' (by omega) hL
  have S2 := S1.sc (i := 3) (by omega) ⟨_, R1, (rdok hO' N1).rin⟩ (fun q hq => f1 q hq)
  have B2 : Num T h2 (b + 350) 8 wn := B1.kept (f1 _ (by omega)) (f1 _ (by omega))
  have er : FX6_readPresent T b (iZ L) h1 = some (iZ (wall d L (d 3 L) w0 (nL d (d 3 L)) 0 0), h2) := by
    unfold FX6_readPresent
    rw [cs_zo S1.cs0, zsn, cs_r8 S1.cs0, zsn, cs_r3 S1.cs0, zsn, zsn, sh_g3 S1.sh0, zsn, e2, zb2n]
  have hE := rd_of (L := L) hO' N1
  rw [le_rd hl hL] at hE
  obtain ⟨z6, i6, f6⟩ := find6 (T := T) S2.cs0 R1 (rdok hO' N1) (rdso hO' N1) (rdsg hO' N1) B2 (m := 1) (by omega) hw (fun (x23 : Int32) => some (Except.ok (ε := String) x23, h2)) (fun (u9 : Unit) => some (Except.ok (ε := String) (iZ (-9)), h2)) rfl
  have hB : ∀ i : Nat, (i : Int) < rd σ.1 L 0 0 → (BWd (wall d L (d 3 L) w0 (nL d (d 3 L))) i s 1 ↔ wsg (rd σ.1 L) i 0 = s) := fun i hi => by
    have es := rde_sig (p := 0) hE (rd_ok hO L) (rd_so hO L) (i := i) (by omega) hi
    constructor
    · intro q
      have q0 := q 0 (by omega)
      have q1 : wsg (wall d L (d 3 L) w0 (nL d (d 3 L))) i 0 = s / 1 % 100 := q0
      rw [es] at q1
      omega
    · intro q t ht
      have e0 : t = 0 := by omega
      subst e0
      show wsg (wall d L (d 3 L) w0 (nL d (d 3 L))) i 0 = s / 1 % 100
      rw [es, q]
      omega
  have w00 := (rd_ok hO L).1
  refine ⟨z6, ?_, ?_⟩
  · rw [hE.1] at i6
    rcases i6 with ⟨i, ez, i1, i2, i3⟩ | ⟨ez, i1⟩
    · exact Or.inl ⟨i, ez, i1, (hB i (by omega)).mp i2, fun j hj q => i3 j hj ((hB j (by omega)).mpr q)⟩
    · exact Or.inr ⟨ez, fun i hi q => i1 i hi ((hB i (by omega)).mpr q)⟩
  · unfold FL_tryFind
    refine rq_ok (h' := h2) ?_ ⟨n, tx, hn, d, nxt, dd, fl, ds, S2, ⟨hO, hl⟩, R⟩
    have e1' : FX6_splitSigns T b (iZ 1) (lZ s) h = some (iZ 1, h1) := e1
    have gp : (1 : Int) ≤ 1 ∧ (1 : Int) ≤ 8 := by omega
    unfold FX6_find
    rw [cs_zo S.cs0, zsn, chkLet_t (by omega) (by omega), zbx_ok, q1, q8, chkArg_t (by omega) (by omega) gp, zbx_ok, e1', zb2n, q0, if_neg (by decide), er, zb2n, qm9]
    exact f6
theorem k_find_k (O : Ob T hz h b σ) (y : Int64) : Rq T hz b (FL_tryFind T b (iZ 2) (iZ 1) y h) (-9999001) σ := by
  have O9 := O
  obtain ⟨n, tx, hn, d, nxt, dd, fl, ds, S, R⟩ := O
  unfold FL_tryFind
  refine rq_ex (E := "java/lang/IndexOutOfBoundsException") (h' := h) ?_ (by rw [if_pos rfl, qI1]) O9
  unfold FX6_find
  rw [cs_zo S.cs0, zsn, chkLet_f (by omega) (by omega) (by omega), zbx_er]
theorem k_find_n (O : Ob T hz h b σ) (y : Int64) : Rq T hz b (FL_tryFind T b (iZ 0) (iZ 9) y h) (-9999002) σ := by
  have O9 := O
  obtain ⟨n, tx, hn, d, nxt, dd, fl, ds, S, R⟩ := O
  unfold FL_tryFind
  refine rq_ex (E := "java/lang/IllegalArgumentException") (h' := h) ?_ (by rw [if_neg (by decide), if_pos rfl, qI2]) O9
  unfold FX6_find
  rw [cs_zo S.cs0, zsn, chkLet_t (by omega) (by omega), zbx_ok, q1, q8, chkArg_f (by omega) (by omega) (by omega) (by omega) (by omega) (by omega) (by omega), zbx_er]
theorem k_find_s (O : Ob T hz h b σ) : Rq T hz b (FL_tryFind T b (iZ 0) (iZ 2) (lZ 2700) h) (-9999002) σ := by
  obtain ⟨n, tx, hn, d, nxt, dd, fl, ds, S, R⟩ := O
  obtain ⟨h1, wn, e1, B1, ew, S1⟩ := split6 S (m := 2) (by omega) (by omega) (lZ 2700)
  have hp : pI (lZ 2700) 1 = 27 := by
    have := (pI_eq (z := 2700) (by omega) (by omega) 1).1
    rw [this]
    decide
  have hn' : ¬ (0 ≤ (lZ 2700).toInt ∧ rI (lZ 2700) 2 = 0 ∧ ∀ t : Nat, t < 2 → ¬ 26 < pI (lZ 2700) t) := fun w => w.2.2 1 (by omega) (by rw [hp]; omega)
  rw [ind_f hn'] at e1
  have e1' : FX6_splitSigns T b (iZ 2) (lZ 2700) h = some (iZ 0, h1) := e1
  have gp : (1 : Int) ≤ 2 ∧ (2 : Int) ≤ 8 := by omega
  unfold FL_tryFind
  refine rq_ex (E := "java/lang/IllegalArgumentException") (h' := h1) ?_ (by rw [if_neg (by decide), if_pos rfl, qI2]) ⟨n, tx, hn, d, nxt, dd, fl, ds, S1, R⟩
  unfold FX6_find
  rw [cs_zo S.cs0, zsn, chkLet_t (by omega) (by omega), zbx_ok, q1, q8, chkArg_t (by omega) (by omega) gp, zbx_ok, e1', zb2n, q0, if_pos rfl]
end Ob5
