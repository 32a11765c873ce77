/-! call: shared -/
noncomputable def ind (P : Prop) : Int := @ite Int P (Classical.propDecidable P) 1 0
theorem ind_t {P : Prop} (h : P) : ind P = 1 := if_pos h
theorem ind_f {P : Prop} (h : ¬ P) : ind P = 0 := if_neg h
theorem ind_in (P : Prop) : ind P = 0 ∨ ind P = 1 := by
  by_cases h : P
  · exact Or.inr (ind_t h)
  · exact Or.inl (ind_f h)
theorem loop_seek {ρ : Type} {L : Nat → Int32 → Option ρ} {K0 K1 : Option ρ} {P : Nat → Prop} {n : Nat} (hn : n < 9000) (hp : ∀ k i, i < n → P i → L (k + 2) (iZ i) = K0) (hs : ∀ k i, i < n → ¬ P i → L (k + 1) (iZ i) = L k (iZ (i + 1))) (he : ∀ k, L (k + 1) (iZ n) = K1) : ((∃ i, i < n ∧ P i) ∧ L FUEL (iZ 0) = K0) ∨ ((∀ i, i < n → ¬ P i) ∧ L FUEL (iZ 0) = K1) := by
  have key : ∀ (m i k : Nat), i + m = n → m + 1 < k → ((∃ j, i ≤ j ∧ j < n ∧ P j) ∧ L k (iZ i) = K0) ∨ ((∀ j, i ≤ j → j < n → ¬ P j) ∧ L k (iZ i) = K1) := by
    intro m
    induction m with
    | zero =>
      intro i k h1 h2
      obtain ⟨k, rfl⟩ : ∃ q, k = q + 1 := ⟨k - 1, by omega⟩
      have e : i = n := by omega
      rw [e]
      exact Or.inr ⟨fun j a c => by omega, he k⟩
    | succ m ih =>
      intro i k h1 h2
      obtain ⟨k, rfl⟩ : ∃ q, k = q + 1 := ⟨k - 1, by omega⟩
      by_cases c : P i
      · obtain ⟨k, rfl⟩ : ∃ q, k = q + 1 := ⟨k - 1, by omega⟩
        exact Or.inl ⟨⟨i, by omega, by omega, c⟩, hp k i (by omega) c⟩
      · have hi := ih (i + 1) k (by omega) (by omega)
        rw [hs k i (by omega) c]
        have ec : ((i + 1 : Nat) : Int) = (i : Int) + 1 := rfl
        rw [ec] at hi
        rcases hi with ⟨⟨j, j1, j2, j3⟩, e⟩ | ⟨e1, e2⟩
        · exact Or.inl ⟨⟨j, by omega, j2, j3⟩, e⟩
        · refine Or.inr ⟨fun j j1 j2 => ?_, e2⟩
          by_cases w : j = i
          · rw [w]; exact c
          · exact e1 j (by omega) j2
  have h := key n 0 FUEL (by omega) (by unfold FUEL; omega)
  have ec : ((0 : Nat) : Int) = 0 := rfl
  rw [ec] at h
  rcases h with ⟨⟨j, j1, j2, j3⟩, e⟩ | ⟨e1, e2⟩
  · exact Or.inl ⟨⟨j, j2, j3⟩, e⟩
  · exact Or.inr ⟨fun j j2 => e1 j (by omega) j2, e2⟩
def SWd (u : Nat → Nat → Int) (i : Int) (w : Nat → Nat → Int) (j : Int) : Prop := wlen u i = wlen w j ∧ ∀ t : Nat, (t : Int) < wlen u i → wsg u i t = wsg w j t
noncomputable def shv (u w : Nat → Nat → Int) : Int := zsum (w 0 0).toNat (fun j => ind (∃ i : Nat, (i : Int) < u 0 0 ∧ SWd u i w j))
theorem shv_in (u w : Nat → Nat → Int) (h0 : 0 ≤ w 0 0) (h1 : w 0 0 ≤ 81) : 0 ≤ shv u w ∧ shv u w ≤ 81 := by
  have g := zsum_le (f := fun j : Nat => ind (∃ i : Nat, (i : Int) < u 0 0 ∧ SWd u i w j)) (m := 1) (w 0 0).toNat (fun j _ => by
    have := ind_in (∃ i : Nat, (i : Int) < u 0 0 ∧ SWd u i w j)
    omega)
  unfold shv
  omega
theorem wsg_sm {w : Nat → Nat → Int} (h : SO w) (hW : RdOk w 81) (hG : SgIn w) {i p : Int} (i1 : 0 ≤ i) (i2 : i < w 0 0) : -9 ≤ wsg w i p ∧ wsg w i p ≤ 26 := by
  have hl := wlen_in h hW i1 i2
  unfold wsg
  by_cases c : 0 ≤ p ∧ p < wlen w i
  · rw [if_pos c]
    have := hG.1 (w 3 i.toNat + p).toNat (by omega)
    omega
  · rw [if_neg c]; omega
section Sh
variable {T : zT} {h : zH} {u w : Nat → Nat → Int} {Ru Rw : Nat}
theorem same6 (hU : RdAt T h Ru u) (hV : RdAt T h Rw w) (oU : RdOk u 81) (oW : RdOk w 81) (sU : SO u) (sW : SO w) (gU : SgIn u) (gW : SgIn w) {i j : Int} (i1 : 0 ≤ i) (i2 : i < u 0 0) (j1 : 0 ≤ j) (j2 : j < w 0 0) : FX2_isSameWord T Ru (iZ i) Rw (iZ j) h = some (iZ (ind (SWd u i w j))) := by
  have lu := wlen_le sU oU i1 i2
  have lw := wlen_le sW oW j1 j2
  unfold FX2_isSameWord
  rw [rd_zo hU, zsn, lengthOf_eq hU oU i1 i2, zsn, lengthOf_eq hV oW j1 j2, zsn, q0]
  by_cases c : wlen u i = wlen w j
  · rw [if_pos (by rw [c])]
    refine Or.elim (loop_find (L := LX2_isSameWord_18 T h Ru (iZ i) Rw (iZ j) (fun (u9 : Unit) => some (iZ 0)) (fun (u9 : Unit) => some 1)) (K0 := fun _ => some (iZ 0)) (K1 := some 1) (P := fun t => wsg u i t ≠ wsg w j t) (n := (wlen u i).toNat) (by omega) (fun k t ht => ?_) (fun k => ?_)) ?_ ?_
    · have a1 := wsg_sm (p := (t : Int)) sU oU gU i1 i2
      have a2 := wsg_sm (p := (t : Int)) sW oW gW j1 j2
      by_cases ce : wsg u i t = wsg w j t
      · refine Or.inr ⟨fun z => z ce, ?_⟩
        rw [LX2_isSameWord_18.eq_2, lengthOf_eq hU oU i1 i2, zsn, if_neg (by rw [iZ_le (by omega) (by omega) (by omega) (by omega)]; omega), signAt_eq hU oU sU i1 i2 (by omega) (by omega), zsn, signAt_eq hV oW sW j1 j2 (by omega) (by omega), zsn, if_pos (by rw [ce]), q1, iZ_add]
      · refine Or.inl ⟨ce, ?_⟩
        rw [LX2_isSameWord_18.eq_2, lengthOf_eq hU oU i1 i2, zsn, if_neg (by rw [iZ_le (by omega) (by omega) (by omega) (by omega)]; omega), signAt_eq hU oU sU i1 i2 (by omega) (by omega), zsn, signAt_eq hV oW sW j1 j2 (by omega) (by omega), zsn, if_neg (by rw [iZ_eq (by omega) (by omega) (by omega) (by omega)]; exact ce)]
    · rw [LX2_isSameWord_18.eq_2, lengthOf_eq hU oU i1 i2, zsn, if_pos (by rw [iZ_le (by omega) (by omega) (by omega) (by omega)]; omega)]
    · rintro ⟨t, t1, t2, t3, e⟩
      rw [ind_f (fun z => t2 (z.2 t (by omega)))]
      exact e
    · rintro ⟨t1, e⟩
      rw [ind_t ⟨c, fun t ht => Classical.not_not.mp (t1 t (by omega))⟩]
      exact e
  · rw [if_neg (by rw [iZ_eq (by omega) (by omega) (by omega) (by omega)]; exact c), ind_f (fun z => c z.1)]
theorem has6 (hU : RdAt T h Ru u) (hV : RdAt T h Rw w) (oU : RdOk u 81) (oW : RdOk w 81) (sU : SO u) (sW : SO w) (gU : SgIn u) (gW : SgIn w) {j : Int} (j1 : 0 ≤ j) (j2 : j < w 0 0) : FX2_hasWord T Ru Rw (iZ j) h = some (iZ (ind (∃ i : Nat, (i : Int) < u 0 0 ∧ SWd u i w j))) := by
  have hb := oU.1
  have hb2 := oU.2.1
  unfold FX2_hasWord
  rw [rd_zo hU, zsn, q0]
  refine Or.elim (loop_find (L := LX2_hasWord_2 T h Ru Rw (iZ j) (fun (u9 : Unit) => some 1) (fun (u9 : Unit) => some (iZ 0))) (K0 := fun _ => some 1) (K1 := some (iZ 0)) (P := fun t => SWd u t w j) (n := (u 0 0).toNat) (by omega) (fun k t ht => ?_) (fun k => ?_)) ?_ ?_
  · have a := same6 hU hV oU oW sU sW gU gW (i := t) (by omega) (by omega) j1 j2
    by_cases ce : SWd u t w j
    · refine Or.inl ⟨ce, ?_⟩
      rw [LX2_hasWord_2.eq_2, rd_g0 hU, zsn, if_neg (by rw [iZ_le (by omega) (by omega) (by omega) (by omega)]; omega), a, zsn, ind_t ce, q0, if_neg (by decide)]
    · refine Or.inr ⟨ce, ?_⟩
      rw [LX2_hasWord_2.eq_2, rd_g0 hU, zsn, if_neg (by rw [iZ_le (by omega) (by omega) (by omega) (by omega)]; omega), a, zsn, ind_f ce, q0, if_pos rfl, q1, iZ_add]
  · rw [LX2_hasWord_2.eq_2, rd_g0 hU, zsn, if_pos (by rw [iZ_le (by omega) (by omega) (by omega) (by omega)]; omega)]
  · rintro ⟨t, t1, t2, t3, e⟩
    rw [ind_t ⟨t, by omega, t2⟩]
    exact e
  · rintro ⟨t1, e⟩
    rw [ind_f (fun z => by obtain ⟨i, z1, z2⟩ := z; exact t1 i (by omega) z2)]
    exact e
end Sh
section Si
variable {T : zT} {h : zH} {b o : Nat} {n : Int} {tx : Nat → Int} {d : Nat → Nat → Int} {cnt nxt : Int} {dd : Nat → Nat → Nat → Int} {fl : Nat → Int} {ds : Nat → Nat → Nat → Int} {fs v tx7 r D kp kb : Nat → Int} {x : Int64}
theorem sh6 {u w : Nat → Nat → Int} (hC : CsAt h b n) (hU : RdAt T h (b + 343) u) (hV : RdAt T h (b + 336) w) (oU : RdOk u 81) (oW : RdOk w 81) (sU : SO u) (sW : SO w) (gU : SgIn u) (gW : SgIn w) {ρ : Type} (K : Int32 → Option ρ) : LX6_shared_30 T h b K FUEL (iZ 0) (iZ 0) = K (iZ (shv u w)) := by
  have hb := oW.1
  have hb2 := oW.2.1
  unfold shv
  refine (loop_sum0 (L := LX6_shared_30 T h b K) (K := K) (g := fun j => ind (∃ i : Nat, (i : Int) < u 0 0 ∧ SWd u i w j)) (n := (w 0 0).toNat) (by omega) (fun k t i hi => ?_) (fun k t => ?_) 0).trans (by rw [Int.zero_add])
  · have a := has6 hU hV oU oW sU sW gU gW (j := i) (by omega) (by omega)
    rw [LX6_shared_30.eq_2, cs_r8 hC, zsn, rd_g0 hV, zsn, if_neg (by rw [iZ_le (by omega) (by omega) (by omega) (by omega)]; omega)]
    simp only [zJn]
    rw [cs_r9 hC, zsn, zsn, a, zsn, q0, q1, iZ_add, iZ_add]
    rcases ind_in (∃ i' : Nat, (i' : Int) < u 0 0 ∧ SWd u i' w i) with e | e
    · rw [e, if_pos rfl, Int.add_zero]
    · rw [e, if_neg (by decide)]
  · rw [LX6_shared_30.eq_2, cs_r8 hC, zsn, rd_g0 hV, zsn, if_pos (by rw [iZ_le (by omega) (by omega) (by omega) (by omega)]; omega)]
/-- the other reading reads letter 1 -/
theorem St.rp2 (S : St T h b o n tx d cnt nxt dd fl ds fs v tx7 r D kp kb x) (hO : OkD d) {L : Nat} (hL : L < 2) : ∃ h' w0, FX2_readLetter T (b + 343) (b + 4) (iZ L) (iZ (d 0 3)) h = some (iZ (wall d L (d 3 L) w0 (nL d (d 3 L)) 0 0), h') ∧ RdAt T h' (b + 343) (wall d L (d 3 L) w0 (nL d (d 3 L))) ∧ offR (b + 343) h h' ∧ St T h' b o n tx d cnt nxt dd fl ds fs v tx7 r D kp kb x ∧ RdNew w0 := by
  have S3 : ∃ w, RdAt T h (b + 343) w ∧ RdIn w := S.2.2.1 4 (by omega)
  obtain ⟨w, hR, hI⟩ := S3
  obtain ⟨h', w0, q, R1, f1, N1⟩ := readLetter_eq hR hI S.sh0 hO (by omega) hL
  exact ⟨h', w0, q, R1, f1, S.sc (i := 4) (by omega) ⟨_, R1, (rdok hO N1).rin⟩ (fun q hq => f1 q hq), N1⟩
end Si
