/-! a turned sheet as a function; what it keeps -/
def tnF (d : Nat → Nat → Int) : Nat → Nat → Int := fun r j =>
  if r = 0 then (if j = 0 then d 0 1 else if j = 1 then d 0 0 else d 0 j)
  else if r = 1 then d 1 j else if r = 2 then 8 - d 2 j else if r = 3 then 1 - d 3 j
  else if r = 4 then cn d ((j % 9 : Nat) : Int) (d 0 1 - 1 - ((j / 9 : Nat) : Int))
  else if r = 7 then 8 - d 7 (pl (((j / 2) % 9 : Nat) : Int) (d 0 1 - 1 - (((j / 2) / 9 : Nat) : Int)) ((j % 2 : Nat) : Int))
  else d r (pl (((j / 2) % 9 : Nat) : Int) (d 0 1 - 1 - (((j / 2) / 9 : Nat) : Int)) ((j % 2 : Nat) : Int))
section Tf
variable {d e a c : Nat → Nat → Int}
theorem tnF_turned (hO : OkD d) : TurnedD d (tnF d) := by
  refine ⟨⟨rfl, rfl, rfl, rfl⟩, fun k hk => ⟨rfl, rfl, rfl⟩, fun x y g => ?_⟩
  have g9 := hO.g9 g
  have hcn := hO.cn g
  obtain ⟨⟨o1, o2, o3, o4, -⟩, -⟩ := id hO
  obtain ⟨a1, a2, a3, a4⟩ := g
  have hX : 0 ≤ tX d y ∧ tX d y < 9 := by unfold tX; omega
  have eX : d 0 1 - 1 - tX d y = y := by unfold tX; omega
  refine ⟨?_, fun i i1 i2 => ?_⟩
  · show cn d (((9 * tX d y + x).toNat % 9 : Nat) : Int) (d 0 1 - 1 - (((9 * tX d y + x).toNat / 9 : Nat) : Int)) = _
    have e1 : (((9 * tX d y + x).toNat % 9 : Nat) : Int) = x := by omega
    have e2 : (((9 * tX d y + x).toNat / 9 : Nat) : Int) = tX d y := by omega
    rw [e1, e2, eX]
  · have e0 : pl (tX d y) x i = (2 * (9 * tX d y + x) + i).toNat := rfl
    have e1 : (((pl (tX d y) x i / 2) % 9 : Nat) : Int) = x := by rw [e0]; omega
    have e2 : (((pl (tX d y) x i / 2) / 9 : Nat) : Int) = tX d y := by rw [e0]; omega
    have e3 : ((pl (tX d y) x i % 2 : Nat) : Int) = i := by rw [e0]; omega
    have key : pl (((pl (tX d y) x i / 2) % 9 : Nat) : Int) (d 0 1 - 1 - (((pl (tX d y) x i / 2) / 9 : Nat) : Int)) ((pl (tX d y) x i % 2 : Nat) : Int) = pl x y i := by rw [e1, e2, e3, eX]
    refine ⟨?_, ?_, ?_, ?_⟩
    · show d 5 (pl _ _ _) = _
      rw [key]
    · show d 6 (pl _ _ _) = _
      rw [key]
    · show 8 - d 7 (pl _ _ _) = _
      rw [key]
    · show d 8 (pl _ _ _) = _
      rw [key]
theorem tnF_ok (hO : OkD d) : OkD (tnF d) := OkD_turn hO (tnF_turned hO)
/-- the cell of the turned sheet comes from a cell -/
theorem turned_cell (hO : OkD d) (hT : TurnedD d a) {X Y : Int} (G : inG a X Y) : inG d Y (d 0 1 - 1 - X) ∧ tX d (d 0 1 - 1 - X) = X ∧ cn a X Y = cn d Y (d 0 1 - 1 - X) ∧ ∀ i, 0 ≤ i → i < cn d Y (d 0 1 - 1 - X) → a 5 (pl X Y i) = d 5 (pl Y (d 0 1 - 1 - X) i) ∧ a 6 (pl X Y i) = d 6 (pl Y (d 0 1 - 1 - X) i) ∧ a 7 (pl X Y i) = 8 - d 7 (pl Y (d 0 1 - 1 - X) i) ∧ a 8 (pl X Y i) = d 8 (pl Y (d 0 1 - 1 - X) i) := by
  obtain ⟨⟨t1, t2, t3, t4⟩, -, hc⟩ := hT
  unfold inG at G
  rw [t1, t2] at G
  have g : inG d Y (d 0 1 - 1 - X) := ⟨by omega, by omega, by omega, by omega⟩
  have eX : tX d (d 0 1 - 1 - X) = X := by unfold tX; omega
  obtain ⟨c1, c2⟩ := hc _ _ g
  rw [eX] at c1 c2
  exact ⟨g, eX, c1, c2⟩
theorem turned_le (hO : OkD d) (h : LE d e) (hT : TurnedD d a) (hU : TurnedD e c) : LE a c := by
  have hOe := h.ok hO
  refine ⟨fun j hj => ?_, fun k hk => ?_, fun X Y G => ?_⟩
  · obtain ⟨⟨t1, t2, t3, t4⟩, -⟩ := hT
    obtain ⟨⟨u1, u2, u3, u4⟩, -⟩ := hU
    rcases (show j = 0 ∨ j = 1 ∨ j = 2 ∨ j = 3 by omega) with rfl | rfl | rfl | rfl
    · rw [t1, u1, h.1 1 (by omega)]
    · rw [t2, u2, h.1 0 (by omega)]
    · rw [t3, u3, h.1 2 (by omega)]
    · rw [t4, u4, h.1 3 (by omega)]
  · obtain ⟨t1, t2, t3⟩ := hT.2.1 k hk
    obtain ⟨u1, u2, u3⟩ := hU.2.1 k hk
    obtain ⟨l1, l2, l3⟩ := h.2.1 k hk
    rw [t1, t2, t3, u1, u2, u3, l1, l2, l3]
    exact ⟨rfl, rfl, rfl⟩
  · have G' : inG c X Y := by
      unfold inG at G ⊢
      rw [hU.1.1, hU.1.2.1, h.1 0 (by omega), h.1 1 (by omega)]
      rw [hT.1.1, hT.1.2.1] at G
      exact G
    obtain ⟨g, -, a1, a2⟩ := turned_cell hO hT G
    obtain ⟨-, -, b1, b2⟩ := turned_cell hOe hU G'
    rw [h.1 1 (by omega)] at b1 b2
    rw [h.cc g] at b1 b2
    refine ⟨b1.trans a1.symm, fun i i1 i2 => ?_⟩
    rw [a1] at i2
    obtain ⟨p5, p6, p7, p8⟩ := a2 i i1 i2
    obtain ⟨r5, r6, r7, r8⟩ := b2 i i1 i2
    obtain ⟨m5, m6, m7, m8⟩ := h.mm g i1 i2
    rw [p5, p6, p7, p8, r5, r6, r7, r8, m5, m6, m7, m8]
    exact ⟨rfl, rfl, rfl, rfl⟩
theorem tnF_le (h : LE d e) (hO : OkD d) : LE (tnF d) (tnF e) := turned_le hO h (tnF_turned hO) (tnF_turned (h.ok hO))
/-- four turns are none -/
theorem tnF_4 (hO : OkD d) : LE (tnF (tnF (tnF (tnF d)))) d := by
  have O1 := tnF_ok hO
  have O2 := tnF_ok O1
  have O3 := tnF_ok O2
  have O4 := tnF_ok O3
  refine LE.symm ⟨fun j hj => ?_, fun k hk => ⟨rfl, ?_, ?_⟩, fun x y g => ?_⟩
  · rcases (show j = 0 ∨ j = 1 ∨ j = 2 ∨ j = 3 by omega) with rfl | rfl | rfl | rfl <;> rfl
  · show 8 - (8 - (8 - (8 - d 2 k))) = d 2 k
    omega
  · show 1 - (1 - (1 - (1 - d 3 k))) = d 3 k
    omega
  · have w1 : tnF d 0 0 = d 0 1 := rfl
    have v1 : tnF d 0 1 = d 0 0 := rfl
    have v2 : tnF (tnF d) 0 1 = d 0 1 := rfl
    have w2 : tnF (tnF d) 0 0 = d 0 0 := rfl
    have w3 : tnF (tnF (tnF d)) 0 0 = d 0 1 := rfl
    have v3 : tnF (tnF (tnF d)) 0 1 = d 0 0 := rfl
    have w4 : tnF (tnF (tnF (tnF d))) 0 0 = d 0 0 := rfl
    have v4 : tnF (tnF (tnF (tnF d))) 0 1 = d 0 1 := rfl
    have gg := g
    unfold inG at gg
    have G4 : inG (tnF (tnF (tnF (tnF d)))) x y := by unfold inG; rw [w4, v4]; exact gg
    obtain ⟨g3, -, c3, m3⟩ := turned_cell O3 (tnF_turned O3) G4
    obtain ⟨g2, -, c2, m2⟩ := turned_cell O2 (tnF_turned O2) g3
    obtain ⟨g1, -, c1, m1⟩ := turned_cell O1 (tnF_turned O1) g2
    obtain ⟨g0, -, c0, m0⟩ := turned_cell hO (tnF_turned hO) g1
    have ex : d 0 0 - 1 - (d 0 0 - 1 - x) = x := by omega
    have ey : d 0 1 - 1 - (d 0 1 - 1 - y) = y := by omega
    rw [v3] at c3 m3
    rw [v3, v2] at c2 m2
    rw [v3, v2, v1] at c1 m1
    rw [v3, v2, v1] at c0 m0
    rw [v3, v2, v1] at g0
    rw [ex, ey] at c0 m0 g0
    rw [ex] at c1 m1
    refine ⟨by rw [c3, c2, c1, c0], fun i i1 i2 => ?_⟩
    obtain ⟨a5, a6, a7, a8⟩ := m3 i i1 (by rw [c2, c1, c0]; exact i2)
    obtain ⟨b5, b6, b7, b8⟩ := m2 i i1 (by rw [c1, c0]; exact i2)
    obtain ⟨k5, k6, k7, k8⟩ := m1 i i1 (by rw [c0]; exact i2)
    obtain ⟨n5, n6, n7, n8⟩ := m0 i i1 i2
    rw [a5, a6, a7, a8, b5, b6, b7, b8, k5, k6, k7, k8, n5, n6, n7, n8]
    exact ⟨rfl, rfl, by omega, rfl⟩
theorem zsum_head (f : Nat → Int) : ∀ n : Nat, zsum (n + 1) f = f 0 + zsum n (fun i => f (i + 1))
  | 0 => by show (0 : Int) + f 0 = f 0 + 0; omega
  | n + 1 => by
    show zsum (n + 1) f + f (n + 1) = f 0 + (zsum n (fun i => f (i + 1)) + f (n + 1))
    rw [zsum_head f n]
    omega
theorem zsum_rev (f : Nat → Int) : ∀ n : Nat, zsum n (fun i => f (n - 1 - i)) = zsum n f
  | 0 => rfl
  | n + 1 => by
    rw [zsum_head (fun i => f (n + 1 - 1 - i)) n]
    show f (n + 1 - 1 - 0) + zsum n (fun i => f (n + 1 - 1 - (i + 1))) = zsum n f + f n
    rw [show n + 1 - 1 - 0 = n from rfl, zsum_congr (f := fun i => f (n + 1 - 1 - (i + 1))) (g := fun i => f (n - 1 - i)) n (fun i hi => by show f _ = f _; congr 1; omega), zsum_rev f n]
    omega
theorem gsum_turn (hO : OkD d) (hT : TurnedD d a) {p q : Int → Int → Int} (hf : ∀ x y, inG d x y → q (tX d y) x = p x y) : gsum a q = gsum d p := by
  obtain ⟨w1, w2, w3, w4⟩ := hO.wh
  unfold gsum
  rw [hT.1.1, hT.1.2.1, zsum_swap]
  refine zsum_congr _ (fun x hx => ?_)
  rw [← zsum_rev (fun y : Nat => p x y)]
  refine zsum_congr _ (fun X hX => ?_)
  have g : inG d x ((((d 0 1).toNat - 1 - X : Nat)) : Int) := ⟨by omega, by omega, by omega, by omega⟩
  have e : tX d ((((d 0 1).toNat - 1 - X : Nat)) : Int) = X := by unfold tX; omega
  have := hf _ _ g
  rw [e] at this
  exact this
theorem zabs_neg (z : Int) : zabs (-z) = zabs z := by unfold zabs; split <;> split <;> omega
theorem turned_dec (hO : OkD d) (hT : TurnedD d a) {x y i : Int} (g : inG d x y) (i1 : 0 ≤ i) : dec a (tX d y) x i = dec d x y i := by
  obtain ⟨c1, c2⟩ := hT.2.2 x y g
  have e : cn a (tX d y) x = cn d x y := c1
  unfold dec
  rw [e]
  by_cases c : i < cn d x y
  · rw [if_pos c, if_pos c]; exact (c2 i i1 c).2.2.2
  · rw [if_neg c, if_neg c]
theorem turned_dst (hT : TurnedD d a) {x y i : Int} (g : inG d x y) (i1 : 0 ≤ i) (i2 : i < cn d x y) {k : Nat} (hk : k < 2) : dst a (pl (tX d y) x i) k = dst d (pl x y i) k := by
  obtain ⟨c1, c2⟩ := hT.2.2 x y g
  obtain ⟨m5, m6, m7, m8⟩ := c2 i i1 i2
  obtain ⟨l1, l2, l3⟩ := hT.2.1 k hk
  unfold dst
  rw [m6, m7, l1, l2, show 8 - d 7 (pl x y i) - (8 - d 2 k) = -(d 7 (pl x y i) - d 2 k) by omega, zabs_neg]
theorem turned_own (hO : OkD d) (hT : TurnedD d a) {x y : Int} (g : inG d x y) : own a (tX d y) x = own d x y := by
  have e : cn a (tX d y) x = cn d x y := (hT.2.2 x y g).1
  unfold own
  rw [e]
  by_cases c : cn d x y ≤ 0
  · rw [if_pos c, if_pos c]
  · have el : lean a (tX d y) x = lean d x y := by
      unfold lean
      rw [e, turned_dst hT g (by omega) (by omega) (k := 1) (by omega), turned_dst hT g (by omega) (by omega) (k := 0) (by omega)]
      by_cases c1 : 1 < cn d x y
      · rw [if_pos c1, if_pos c1, turned_dst hT g (by omega) (by omega) (k := 1) (by omega), turned_dst hT g (by omega) (by omega) (k := 0) (by omega)]
      · rw [if_neg c1, if_neg c1]
    rw [if_neg c, if_neg c, turned_dec hO hT g (by omega), turned_dec hO hT g (by omega), el, hT.1.2.2.1]
theorem turned_dbt (hO : OkD d) (hT : TurnedD d a) : gsum a (dbt a) = gsum d (dbt d) := gsum_turn hO hT (fun x y g => by
  unfold dbt
  rw [turned_own hO hT g, show cn a (tX d y) x = cn d x y from (hT.2.2 x y g).1])
theorem turned_cnt (hO : OkD d) (hT : TurnedD d a) : gsum a (cn a) = gsum d (cn d) := gsum_turn hO hT (fun x y g => (hT.2.2 x y g).1)
end Tf
section Ob4
variable {T : zT} {hz h h' : zH} {b : Nat} {σ τ : Sg}
theorem k_turn (O : Ob T hz h b σ) : ∃ h', FX6_turn T b h = some (iZ (rd (tnF σ.1) 0 0 0 + rd (tnF σ.1) 1 0 0), h') ∧ Ob T hz h' b (acted σ (tnF σ.1)) := by
  obtain ⟨n, tx, hn, d, nxt, dd, fl, ds, S, ⟨hO, hl⟩, ⟨c1, c2, c3, c4⟩, hh, hf⟩ := O
  have hO' := hl.ok hO
  obtain ⟨h1, dr, e1, H1, s1, f1⟩ := remember_eq S.hs0 c1 c2 c3 c4 S.sh0 (by omega)
  have S1 := S.hist H1 f1
  have S12 : ∃ e, ShAt T h1 (b + 38) e := S1.2.2.1 2 (by omega)
  obtain ⟨e0, E0⟩ := S12
  obtain ⟨h2, d', e9, e2, M2, E2, hsd, hT, f2⟩ := turnByQuarter_eq S1.sh0 E0 hO' (by omega)
  have S2 := S1.turned M2 E2 f2
  have l9 : LE σ.1 e9 := hl.trans (LE.same hsd hO')
  have hln : LE (tnF σ.1) d' := turned_le hO l9 (tnF_turned hO) hT
  have hOn := tnF_ok hO
  have O2 : Ob T hz h2 b (acted σ (tnF σ.1)) := by
    refine ⟨n, tx, hn, d', (nxt + 1) % 14, ddup dd nxt.toNat dr, upZ fl nxt.toNat 1, ds, S2, ⟨hOn, hln⟩, ?_, fun i hi => ?_, hf⟩
    · show 0 ≤ (if 14 < σ.2.1 + 1 then 14 else σ.2.1 + 1) ∧ (if 14 < σ.2.1 + 1 then 14 else σ.2.1 + 1) ≤ 14 ∧ _
      refine ⟨?_, ?_, by omega, by omega⟩ <;> split <;> omega
    · have hi' : (i : Int) < (if 14 < σ.2.1 + 1 then 14 else σ.2.1 + 1) := hi
      by_cases ci : i = 0
      · have es : sln ((nxt + 1) % 14) i = nxt.toNat := by unfold sln; omega
        rw [es, upZ_self]
        unfold ddup
        rw [if_pos rfl]
        show (1 : Int) = 1 ∧ OkD (if i = 0 then σ.1 else σ.2.2.1 (i - 1)) ∧ LE (if i = 0 then σ.1 else σ.2.2.1 (i - 1)) dr
        rw [if_pos ci]
        exact ⟨rfl, hO, hl.trans (LE.same s1 hO')⟩
      · have hi2 : ((i - 1 : Nat) : Int) < σ.2.1 := by
          revert hi'
          split <;> omega
        have hi3 : i < 14 := by
          revert hi'
          split <;> omega
        have es : sln ((nxt + 1) % 14) i = sln nxt (i - 1) := by unfold sln; omega
        have en : sln nxt (i - 1) ≠ nxt.toNat := by unfold sln; omega
        obtain ⟨a1, a2, a3⟩ := hh (i - 1) hi2
        rw [es, upZ_ne _ _ en]
        unfold ddup
        rw [if_neg en]
        show _ ∧ OkD (if i = 0 then σ.1 else σ.2.2.1 (i - 1)) ∧ LE (if i = 0 then σ.1 else σ.2.2.1 (i - 1)) _
        rw [if_neg ci]
        exact ⟨a1, a2, a3⟩
  obtain ⟨h3, n3, w3, e3, A3, E3, oW, sW, gW, C3, O3⟩ := ob_read O2 (L := 0) (by omega)
  obtain ⟨h4, n4, w4, e4, A4, E4, oW4, sW4, gW4, C4, O4⟩ := ob_read O3 (L := 1) (by omega)
  refine ⟨h4, ?_, O4⟩
  have e3' : FX6_readPresent T b (iZ 0) h2 = some (iZ (rd (tnF σ.1) 0 0 0), h3) := e3
  have e4' : FX6_readPresent T b (iZ 1) h3 = some (iZ (rd (tnF σ.1) 1 0 0), h4) := e4
  unfold FX6_turn
  rw [cs_zo S.cs0, zsn, cs_r6 S.cs0, zsn, cs_r3 S.cs0, zsn, e1, zsn, cs_r3 S1.cs0, zsn, cs_r5 S1.cs0, zsn, e2, zsn, q0, e3', zb2n, q1, e4', zb2n, iZ_add]
end Ob4
