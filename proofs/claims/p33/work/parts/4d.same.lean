/-! a Sheet takes another's data; a new sheet; pages that agree -/
def SameD (d d' : Nat → Nat → Int) : Prop := (∀ j, j < 4 → d' 0 j = d 0 j) ∧ ∀ r, 1 ≤ r → r ≤ 8 → ∀ j, j < sz r → d' r j = d r j
section Sm
variable {d d' : Nat → Nat → Int} {r r' : Nat → Int}
theorem SameD.refl (d : Nat → Nat → Int) : SameD d d := ⟨fun _ _ => rfl, fun _ _ _ _ _ => rfl⟩
theorem same_in (hs : SameD d d') (x y : Int) : inG d' x y ↔ inG d x y := by
  unfold inG
  rw [hs.1 0 (by omega), hs.1 1 (by omega)]
theorem same_cn (hs : SameD d d') (hO : OkD d) {x y : Int} (g : inG d x y) : cn d' x y = cn d x y := by
  have g9 := hO.g9 g
  exact hs.2 4 (by omega) (by omega) _ (by show _ < 81; omega)
theorem same_m (hs : SameD d d') (hO : OkD d) {x y i : Int} (g : inG d x y) (i1 : 0 ≤ i) (i2 : i < 2) : d' 5 (pl x y i) = d 5 (pl x y i) ∧ d' 6 (pl x y i) = d 6 (pl x y i) ∧ d' 7 (pl x y i) = d 7 (pl x y i) ∧ d' 8 (pl x y i) = d 8 (pl x y i) := by
  have g9 := hO.g9 g
  have hp : pl x y i < 162 := by unfold pl; omega
  exact ⟨hs.2 5 (by omega) (by omega) _ hp, hs.2 6 (by omega) (by omega) _ hp, hs.2 7 (by omega) (by omega) _ hp, hs.2 8 (by omega) (by omega) _ hp⟩
theorem same_l (hs : SameD d d') {k : Nat} (hk : k < 2) : d' 1 k = d 1 k ∧ d' 2 k = d 2 k ∧ d' 3 k = d 3 k := ⟨hs.2 1 (by omega) (by omega) _ hk, hs.2 2 (by omega) (by omega) _ hk, hs.2 3 (by omega) (by omega) _ hk⟩
theorem OkD_same (hs : SameD d d') (hO : OkD d) : OkD d' := by
  refine ⟨?_, ?_, ?_, fun x y g => ?_⟩
  · rw [hs.1 0 (by omega), hs.1 1 (by omega), hs.1 2 (by omega), hs.1 3 (by omega)]; exact hO.1
  · obtain ⟨a, b, c⟩ := same_l hs (k := 0) (by omega)
    unfold lwOk
    rw [a, b, c]; exact hO.2.1
  · obtain ⟨a, b, c⟩ := same_l hs (k := 1) (by omega)
    unfold lwOk
    rw [a, b, c]; exact hO.2.2.1
  · have g2 := (same_in hs x y).mp g
    have hk := hO.2.2.2 x y g2
    rw [same_cn hs hO g2]
    refine ⟨hk.1, hk.2.1, fun i i1 i2 => ?_, fun h2 => ?_⟩
    · obtain ⟨a, b, c, e⟩ := same_m hs hO g2 i1 (by omega)
      unfold mkOk
      rw [a, b, c, e]
      exact hk.2.2.1 i i1 i2
    · obtain ⟨-, -, -, e⟩ := same_m hs hO g2 (i := 0) (by omega) (by omega)
      obtain ⟨-, -, -, e2⟩ := same_m hs hO g2 (i := 1) (by omega) (by omega)
      rw [e, e2]
      exact hk.2.2.2 h2
def Fresh (d : Nat → Nat → Int) (w v : Int) : Prop := (d 0 0 = w ∧ d 0 1 = v ∧ d 0 2 = 2 ∧ d 0 3 = 2 ∧ d 1 0 = 0 ∧ d 2 0 = 2 ∧ d 3 0 = 0 ∧ d 1 1 = 3 ∧ d 2 1 = 6 ∧ d 3 1 = 1) ∧ ∀ j, j < 81 → d 4 j = 0
theorem OkD_fresh {w v : Int} (hF : Fresh d w v) (w1 : 1 ≤ w) (w2 : w ≤ 9) (v1 : 1 ≤ v) (v2 : v ≤ 9) : OkD d := by
  obtain ⟨⟨a1, a2, a3, a4, a5, a6, a7, a8, a9, a10⟩, hz⟩ := hF
  refine ⟨by omega, by unfold lwOk; omega, by unfold lwOk; omega, fun x y g => ?_⟩
  unfold inG at g
  have e : cn d x y = 0 := hz _ (by omega)
  rw [e]
  exact ⟨by omega, by omega, fun i i1 i2 => by omega, fun h => by omega⟩
end Sm
section Tk
variable {T : zT} {hz h : zH} {b c : Nat} {d e : Nat → Nat → Int}
theorem offS.sh {h' : zH} (hf : offS b h h') (hC : ShAt T h c e) (hd : b + 16 < c ∨ c + 16 < b) : ShAt T h' c e := hC.kept (fun q h1 h2 => hf q (by omega))
theorem sh_take (hS : ShAt T h b d) (hC : ShAt T h c e) {r : Nat} (h1 : 1 ≤ r) (h8 : r ≤ 8) : ∃ h' f, FX1_takeFrom T (b + (2 * r - 1)) (c + (2 * r - 1)) h = some h' ∧ ShAt T h' b (rowup d r f) ∧ (∀ j, j < sz r → f j = e r j) ∧ offS b h h' := by
  have hs : sz r ≤ 162 := by unfold sz; split <;> (try split) <;> omega
  obtain ⟨h', f, e1, e2, e3, e4⟩ := take_ok (hC.2 r h1 h8) (hS.2 r h1 h8) (by omega)
  exact ⟨h', f, e1, hS.row h1 h8 e2 e4, e3, fun q hq => e4 q (by omega)⟩
theorem takeFrom_eq (hS : ShAt T h b d) (hC : ShAt T h c e) (hd : b + 16 < c ∨ c + 16 < b) : ∃ h' d', FX3_takeFrom T b c h = some h' ∧ ShAt T h' b d' ∧ SameD e d' ∧ offS b h h' := by
  obtain ⟨g1, e1, s1, f1⟩ := putSize_eq hS (e 0 0) (e 0 1)
  have c1 := f1.sh hC hd
  obtain ⟨g2, e2, s2, f2⟩ := sh_set0 s1 (k := 2) (by omega) (e 0 2)
  have c2 := f2.sh c1 hd
  obtain ⟨g3, e3, s3, f3⟩ := sh_set0 s2 (k := 3) (by omega) (e 0 3)
  have c3 := f3.sh c2 hd
  obtain ⟨g4, t1, e4, s4, v4, f4⟩ := sh_take s3 c3 (r := 1) (by omega) (by omega)
  have c4 := f4.sh c3 hd
  obtain ⟨g5, t2, e5, s5, v5, f5⟩ := sh_take s4 c4 (r := 2) (by omega) (by omega)
  have c5 := f5.sh c4 hd
  obtain ⟨g6, t3, e6, s6, v6, f6⟩ := sh_take s5 c5 (r := 3) (by omega) (by omega)
  have c6 := f6.sh c5 hd
  obtain ⟨g7, t4, e7, s7, v7, f7⟩ := sh_take s6 c6 (r := 4) (by omega) (by omega)
  have c7 := f7.sh c6 hd
  obtain ⟨g8, t5, e8, s8, v8, f8⟩ := sh_take s7 c7 (r := 5) (by omega) (by omega)
  have c8 := f8.sh c7 hd
  obtain ⟨g9, t6, e9, s9, v9, f9⟩ := sh_take s8 c8 (r := 6) (by omega) (by omega)
  have c9 := f9.sh c8 hd
  obtain ⟨ga, t7, ea, sa, va, fa⟩ := sh_take s9 c9 (r := 7) (by omega) (by omega)
  have ca := fa.sh c9 hd
  obtain ⟨gb, t8, eb, sb, vb, fb⟩ := sh_take sa ca (r := 8) (by omega) (by omega)
  refine ⟨gb, _, ?_, sb, ?_, ((((((((((f1.trans f2).trans f3).trans f4).trans f5).trans f6).trans f7).trans f8).trans f9).trans fa).trans fb)⟩
  · unfold FX3_takeFrom
    rw [sh_zo hS, zsn, sh_g0 hC, zsn, sh_g1 hC, zsn, e1, zsn, sh_g2 c1, zsn, e2, zsn, sh_g3 c2, zsn, e3, zsn]
    rw [sh_r1 s3, zsn, sh_r1 c3, zsn, e4, zsn]
    rw [sh_r2 s4, zsn, sh_r2 c4, zsn, e5, zsn]
    rw [sh_r3 s5, zsn, sh_r3 c5, zsn, e6, zsn]
    rw [sh_r4 s6, zsn, sh_r4 c6, zsn, e7, zsn]
    rw [sh_r5 s7, zsn, sh_r5 c7, zsn, e8, zsn]
    rw [sh_r6 s8, zsn, sh_r6 c8, zsn, e9, zsn]
    rw [sh_r7 s9, zsn, sh_r7 c9, zsn, ea, zsn]
    rw [sh_r8 sa, zsn, sh_r8 ca, zsn, eb, zsn]
  · refine ⟨fun j hj => ?_, fun r h1 h8 j hj => ?_⟩
    · rcases (show j = 0 ∨ j = 1 ∨ j = 2 ∨ j = 3 by omega) with rfl | rfl | rfl | rfl <;> rfl
    · rcases (show r = 1 ∨ r = 2 ∨ r = 3 ∨ r = 4 ∨ r = 5 ∨ r = 6 ∨ r = 7 ∨ r = 8 by omega) with rfl | rfl | rfl | rfl | rfl | rfl | rfl | rfl
      · exact v4 j hj
      · exact v5 j hj
      · exact v6 j hj
      · exact v7 j hj
      · exact v8 j hj
      · exact v9 j hj
      · exact va j hj
      · exact vb j hj
end Tk
