/-! call: runScript; the commands 6 to 9, and no command -/
section Ru
variable {T : zT} {h : zH} {b o : Nat} {n : Int} {tx : Nat → Int} {d : Nat → Nat → Int} {cnt nxt : Int} {dd : Nat → Nat → Nat → Int} {fl : Nat → Int} {ds : Nat → Nat → Nat → Int} {fs v tx7 r D kp kb : Nat → Int} {x : Int64}
variable {h' : zH} {e : Nat → Nat → Int}
theorem St.rt2 (S : St T h b o n tx d cnt nxt dd fl ds fs v tx7 r D kp kb x) (M : ShAt T h (b + 21) e) (hO : OkD e) {L : Nat} (hL : L < 2) : ∃ h' w0, FX2_readLetter T (b + 336) (b + 21) (iZ L) (iZ (e 0 3)) h = some (iZ (wall e L (e 3 L) w0 (nL e (e 3 L)) 0 0), h') ∧ RdAt T h' (b + 336) (wall e L (e 3 L) w0 (nL e (e 3 L))) ∧ ShAt T h' (b + 21) e ∧ St T h' b o n tx d cnt nxt dd fl ds fs v tx7 r D kp kb x ∧ RdNew w0 ∧ offR (b + 336) h h' := by
  have S3 : ∃ w, RdAt T h (b + 336) w ∧ RdIn w := S.2.2.1 3 (by omega)
  obtain ⟨w, hR, hI⟩ := S3
  obtain ⟨h', w0, q, R1, f1, N1⟩ := readLetter_eq hR hI M hO (by omega) hL
  exact ⟨h', w0, q, R1, f1.sh M (by omega), S.sc (i := 3) (by omega) ⟨_, R1, (rdok hO N1).rin⟩ (fun q hq => f1 q hq), N1, f1⟩
theorem St.lw4 (S : St T h b o n tx d cnt nxt dd fl ds fs v tx7 r D kp kb x) {rt : Nat → Int} (A : Arr T h (b + 354 + 4) 739 rt) (Q : Pg e rt) (hO : OkD e) {L : Nat} (hL : L < 2) {w0 : Nat → Nat → Int} (N : RdNew w0) : ∃ h' v' bg sg wo, FX7_layWords T (b + 354) (b + 354 + 4) (iZ L) (iZ (e 0 3)) h = some (iZ (wall e L (e 3 L) w0 (nL e (e 3 L)) 0 0), h') ∧ WH T h' (b + 354) (b + 354 + 4) rt v' bg sg wo ∧ Wds (wall e L (e 3 L) w0 (nL e (e 3 L))) v' bg sg wo ∧ (∀ j, j < 15 → v' j = v j) ∧ St T h' b o n tx d cnt nxt dd fl ds fs v' tx7 r D kp kb x := by
  obtain ⟨bg0, sg0, wo0, H0⟩ := S.wh4 A
  obtain ⟨h', v', bg, sg, wo, q, H1, D1, lo, f⟩ := layWords_eq H0 (by omega) (by omega) (by omega) (by omega) Q hO hL N
  exact ⟨h', v', bg, sg, wo, q, H1, D1, lo, S.lay H1 f⟩
theorem gap7 {k : zH} {a9 : Nat} {rt : Nat → Int} (A : Arr T k a9 739 rt) (Q : Pg e rt) : zai T k a9 (iZ 3) = some (iZ (e 0 3)) := by rw [zai_p A (by omega) (by omega), ← Q.1.g]; rfl
theorem cmd6 (S : St T h b o n tx d cnt nxt dd fl ds fs v tx7 r D kp kb x) (M : ShAt T h (b + 21) e) (hO : OkD e) {a y c q : Int} (da : 0 ≤ a ∧ a ≤ 9) (dy : 0 ≤ y ∧ y ≤ 9) (dc : 0 ≤ c ∧ c ≤ 9) (dq : 0 ≤ q ∧ q ≤ 9) : CC T h b o n tx d cnt nxt dd fl ds fs v tx7 r D kp kb x 6 a y c q e := by
  by_cases g : 0 ≤ a ∧ a < 2
  case neg =>
    refine cc_no S M hO ?_ (fun k v9 x9 rt at9 K A Q hat => ?_)
    · unfold SB 
      rw [q1, if_neg (show ¬ iZ 6 = iZ 1 by decide), q2, if_neg (show ¬ iZ 6 = iZ 2 by decide), q3, if_neg (show ¬ iZ 6 = iZ 3 by decide), q4, if_neg (show ¬ iZ 6 = iZ 4 by decide), q5, if_neg (show ¬ iZ 6 = iZ 5 by decide), q6, if_pos rfl]
      simp only [zJn]
      rw [isLet_f (by omega) (by omega) g, zsn, q0, if_pos rfl]
      (first | rw [if_pos (Or.inl rfl)] | rw [if_pos (Or.inl trivial)])
    · unfold DB
      rw [mo_r6 K.mo0, zsn, (im_ex A Q.1 hO da dy dc).choose_spec, zsn, q1, if_neg (show ¬ iZ 6 = iZ 1 by decide), q2, if_neg (show ¬ iZ 6 = iZ 2 by decide), q3, if_neg (show ¬ iZ 6 = iZ 3 by decide), q4, if_neg (show ¬ iZ 6 = iZ 4 by decide), q5, if_neg (show ¬ iZ 6 = iZ 5 by decide), q6, if_pos rfl]
      simp only [zJn]
      rw [isLet7_f (by omega) (by omega) g, zsn, q0, if_pos rfl]
      (first | rw [if_pos (Or.inl rfl)] | rw [if_pos (Or.inl trivial)])
  obtain ⟨L, rfl⟩ : ∃ L : Nat, a = L := ⟨a.toNat, by omega⟩
  have hL : L < 2 := by omega
  by_cases gy : y = 0
  case neg =>
    refine cc_no S M hO ?_ (fun k v9 x9 rt at9 K A Q hat => ?_)
    · unfold SB 
      rw [q1, if_neg (show ¬ iZ 6 = iZ 1 by decide), q2, if_neg (show ¬ iZ 6 = iZ 2 by decide), q3, if_neg (show ¬ iZ 6 = iZ 3 by decide), q4, if_neg (show ¬ iZ 6 = iZ 4 by decide), q5, if_neg (show ¬ iZ 6 = iZ 5 by decide), q6, if_pos rfl]
      simp only [zJn]
      rw [isLet_t (by omega) (by omega), zsn, q0, if_neg (show ¬ iZ 1 = iZ 0 by decide), if_neg (by rw [iZ_eq (by omega) (by omega) (by omega) (by omega)]; omega)]
      (first | rw [if_pos (Or.inl rfl)] | rw [if_pos (Or.inl trivial)])
    · unfold DB
      rw [mo_r6 K.mo0, zsn, (im_ex A Q.1 hO da dy dc).choose_spec, zsn, q1, if_neg (show ¬ iZ 6 = iZ 1 by decide), q2, if_neg (show ¬ iZ 6 = iZ 2 by decide), q3, if_neg (show ¬ iZ 6 = iZ 3 by decide), q4, if_neg (show ¬ iZ 6 = iZ 4 by decide), q5, if_neg (show ¬ iZ 6 = iZ 5 by decide), q6, if_pos rfl]
      simp only [zJn]
      rw [isLet7_t (by omega) (by omega), zsn, q0, if_neg (show ¬ iZ 1 = iZ 0 by decide), if_neg (by rw [iZ_eq (by omega) (by omega) (by omega) (by omega)]; omega)]
      (first | rw [if_pos (Or.inl rfl)] | rw [if_pos (Or.inl trivial)])
  subst gy
  obtain ⟨h2, w0, e2, R2, M2, S2, N2, f2⟩ := S.rt2 M hO hL
  have oW := rdok (L := L) hO N2
  have o1 := oW.1
  have o2 := oW.2.1
  refine ⟨h2, if wall e L (e 3 L) w0 (nL e (e 3 L)) 0 0 < 10 * c + q then 0 else 1, e, ?_, ?_, M2, hO, S2, ⟨f2 _ (by omega), f2 _ (by omega)⟩, fun k v9 x9 rt at9 K A Q hat => ?_⟩
  · unfold SB
    rw [q1, if_neg (show ¬ iZ 6 = iZ 1 by decide), q2, if_neg (show ¬ iZ 6 = iZ 2 by decide), q3, if_neg (show ¬ iZ 6 = iZ 3 by decide), q4, if_neg (show ¬ iZ 6 = iZ 4 by decide), q5, if_neg (show ¬ iZ 6 = iZ 5 by decide), q6, if_pos rfl]
    simp only [zJn]
    rw [isLet_t (by omega) (by omega), zsn, q0, if_neg (show ¬ iZ 1 = iZ 0 by decide), if_pos rfl, cs_r8 S.cs0, zsn, cs_r4 S.cs0, zsn, zsn, sh_g3 M, zsn, e2, zb2n, q10, iZ_mul, iZ_add]
    by_cases c1 : wall e L (e 3 L) w0 (nL e (e 3 L)) 0 0 < 10 * c + q
    · rw [if_pos (by rw [iZ_lt (by omega) (by omega) (by omega) (by omega)]; omega), if_pos c1]
      (first | rw [if_pos (Or.inl rfl)] | rw [if_pos (Or.inl trivial)])
    · rw [if_neg (by rw [iZ_lt (by omega) (by omega) (by omega) (by omega)]; omega), if_neg c1]
      (first | rw [if_pos (Or.inr rfl)] | rw [if_pos (Or.inr trivial)])
  · split <;> omega
  · obtain ⟨k2, v2, bg, sg, wo, g2, H2, D2, lo, K2⟩ := K.lw4 A Q hO hL N2
    refine ⟨k2, v2, rt, ?_, K2, lo, H2.2.2.2.2, Q⟩
    unfold DB
    rw [mo_r6 K.mo0, zsn, (im_ex A Q.1 hO da dy dc).choose_spec, zsn, q1, if_neg (show ¬ iZ 6 = iZ 1 by decide), q2, if_neg (show ¬ iZ 6 = iZ 2 by decide), q3, if_neg (show ¬ iZ 6 = iZ 3 by decide), q4, if_neg (show ¬ iZ 6 = iZ 4 by decide), q5, if_neg (show ¬ iZ 6 = iZ 5 by decide), q6, if_pos rfl]
    simp only [zJn]
    rw [isLet7_t (by omega) (by omega), zsn, q0, if_neg (show ¬ iZ 1 = iZ 0 by decide), if_pos rfl, zsn, zsn, gap7 A Q, zsn, g2, zb2n]
    by_cases c1 : wall e L (e 3 L) w0 (nL e (e 3 L)) 0 0 < 10 * c + q
    · rw [if_pos (by rw [iZ_lt (by omega) (by omega) (by omega) (by omega)]; omega), if_pos c1]
      (first | rw [if_pos (Or.inl rfl)] | rw [if_pos (Or.inl trivial)])
    · rw [if_neg (by rw [iZ_lt (by omega) (by omega) (by omega) (by omega)]; omega), if_neg c1]
      (first | rw [if_pos (Or.inr rfl)] | rw [if_pos (Or.inr trivial)])
theorem cmd7 (S : St T h b o n tx d cnt nxt dd fl ds fs v tx7 r D kp kb x) (M : ShAt T h (b + 21) e) (hO : OkD e) {a y c q : Int} (da : 0 ≤ a ∧ a ≤ 9) (dy : 0 ≤ y ∧ y ≤ 9) (dc : 0 ≤ c ∧ c ≤ 9) (dq : 0 ≤ q ∧ q ≤ 9) : CC T h b o n tx d cnt nxt dd fl ds fs v tx7 r D kp kb x 7 a y c q e := by
  by_cases g : a = 0 ∧ y = 0
  case neg =>
    refine cc_no S M hO ?_ (fun k v9 x9 rt at9 K A Q hat => ?_)
    · unfold SB
      rw [q1, if_neg (show ¬ iZ 7 = iZ 1 by decide), q2, if_neg (show ¬ iZ 7 = iZ 2 by decide), q3, if_neg (show ¬ iZ 7 = iZ 3 by decide), q4, if_neg (show ¬ iZ 7 = iZ 4 by decide), q5, if_neg (show ¬ iZ 7 = iZ 5 by decide), q6, if_neg (show ¬ iZ 7 = iZ 6 by decide), q7, if_pos rfl]
      simp only [zJn]
      rw [q0]
      by_cases c1 : a = 0
      · rw [if_pos (by rw [c1]), if_neg (by rw [iZ_eq (by omega) (by omega) (by omega) (by omega)]; omega)]
        (first | rw [if_pos (Or.inl rfl)] | rw [if_pos (Or.inl trivial)])
      · rw [if_neg (by rw [iZ_eq (by omega) (by omega) (by omega) (by omega)]; omega)]
        (first | rw [if_pos (Or.inl rfl)] | rw [if_pos (Or.inl trivial)])
    · unfold DB
      rw [mo_r6 K.mo0, zsn, (im_ex A Q.1 hO da dy dc).choose_spec, zsn, q1, if_neg (show ¬ iZ 7 = iZ 1 by decide), q2, if_neg (show ¬ iZ 7 = iZ 2 by decide), q3, if_neg (show ¬ iZ 7 = iZ 3 by decide), q4, if_neg (show ¬ iZ 7 = iZ 4 by decide), q5, if_neg (show ¬ iZ 7 = iZ 5 by decide), q6, if_neg (show ¬ iZ 7 = iZ 6 by decide), q7, if_pos rfl]
      simp only [zJn]
      rw [iZ_add, q0, if_neg (by rw [iZ_eq (by omega) (by omega) (by omega) (by omega)]; omega)]
      (first | rw [if_pos (Or.inl rfl)] | rw [if_pos (Or.inl trivial)])
  obtain ⟨rfl, rfl⟩ := g
  have hdb := dbt_162 hO
  refine ⟨h, if 10 * c + q < gsum e (dbt e) then 0 else 1, e, ?_, ?_, M, hO, S, ⟨rfl, rfl⟩, fun k v9 x9 rt at9 K A Q hat => ⟨k, v9, rt, ?_, K, fun _ _ => rfl, A, Q⟩⟩
  · unfold SB
    rw [q1, if_neg (show ¬ iZ 7 = iZ 1 by decide), q2, if_neg (show ¬ iZ 7 = iZ 2 by decide), q3, if_neg (show ¬ iZ 7 = iZ 3 by decide), q4, if_neg (show ¬ iZ 7 = iZ 4 by decide), q5, if_neg (show ¬ iZ 7 = iZ 5 by decide), q6, if_neg (show ¬ iZ 7 = iZ 6 by decide), q7, if_pos rfl]
    simp only [zJn]
    rw [q0, if_pos rfl, if_pos rfl, cs_r4 S.cs0, zsn, countDoubtful_eq M hO, zsn, q10, iZ_mul, iZ_add]
    by_cases c1 : 10 * c + q < gsum e (dbt e)
    · rw [if_pos (by rw [iZ_lt (by omega) (by omega) (by omega) (by omega)]; omega), if_pos c1]
      (first | rw [if_pos (Or.inl rfl)] | rw [if_pos (Or.inl trivial)])
    · rw [if_neg (by rw [iZ_lt (by omega) (by omega) (by omega) (by omega)]; omega), if_neg c1]
      (first | rw [if_pos (Or.inr rfl)] | rw [if_pos (Or.inr trivial)])
  · split <;> omega
  · unfold DB
    rw [mo_r6 K.mo0, zsn, (im_ex A Q.1 hO da dy dc).choose_spec, zsn, q1, if_neg (show ¬ iZ 7 = iZ 1 by decide), q2, if_neg (show ¬ iZ 7 = iZ 2 by decide), q3, if_neg (show ¬ iZ 7 = iZ 3 by decide), q4, if_neg (show ¬ iZ 7 = iZ 4 by decide), q5, if_neg (show ¬ iZ 7 = iZ 5 by decide), q6, if_neg (show ¬ iZ 7 = iZ 6 by decide), q7, if_pos rfl]
    simp only [zJn]
    rw [iZ_add, q0, if_pos (show iZ (0 + 0) = iZ 0 from rfl), zsn, doubts_eq A Q hO, zsn]
    by_cases c1 : 10 * c + q < gsum e (dbt e)
    · rw [if_pos (by rw [iZ_lt (by omega) (by omega) (by omega) (by omega)]; omega), if_pos c1]
      (first | rw [if_pos (Or.inl rfl)] | rw [if_pos (Or.inl trivial)])
    · rw [if_neg (by rw [iZ_lt (by omega) (by omega) (by omega) (by omega)]; omega), if_neg c1]
      (first | rw [if_pos (Or.inr rfl)] | rw [if_pos (Or.inr trivial)])
theorem cmd8 (S : St T h b o n tx d cnt nxt dd fl ds fs v tx7 r D kp kb x) (M : ShAt T h (b + 21) e) (hO : OkD e) {a y c q : Int} (da : 0 ≤ a ∧ a ≤ 9) (dy : 0 ≤ y ∧ y ≤ 9) (dc : 0 ≤ c ∧ c ≤ 9) (dq : 0 ≤ q ∧ q ≤ 9) : CC T h b o n tx d cnt nxt dd fl ds fs v tx7 r D kp kb x 8 a y c q e := by
  by_cases g : 0 ≤ a ∧ a < 2
  case neg =>
    refine cc_no S M hO ?_ (fun k v9 x9 rt at9 K A Q hat => ?_)
    · unfold SB 
      rw [q1, if_neg (show ¬ iZ 8 = iZ 1 by decide), q2, if_neg (show ¬ iZ 8 = iZ 2 by decide), q3, if_neg (show ¬ iZ 8 = iZ 3 by decide), q4, if_neg (show ¬ iZ 8 = iZ 4 by decide), q5, if_neg (show ¬ iZ 8 = iZ 5 by decide), q6, if_neg (show ¬ iZ 8 = iZ 6 by decide), q7, if_neg (show ¬ iZ 8 = iZ 7 by decide), q8, if_pos rfl]
      simp only [zJn]
      rw [isLet_f (by omega) (by omega) g, zsn, q0, if_pos rfl]
      (first | rw [if_pos (Or.inl rfl)] | rw [if_pos (Or.inl trivial)])
    · unfold DB
      rw [mo_r6 K.mo0, zsn, (im_ex A Q.1 hO da dy dc).choose_spec, zsn, q1, if_neg (show ¬ iZ 8 = iZ 1 by decide), q2, if_neg (show ¬ iZ 8 = iZ 2 by decide), q3, if_neg (show ¬ iZ 8 = iZ 3 by decide), q4, if_neg (show ¬ iZ 8 = iZ 4 by decide), q5, if_neg (show ¬ iZ 8 = iZ 5 by decide), q6, if_neg (show ¬ iZ 8 = iZ 6 by decide), q7, if_neg (show ¬ iZ 8 = iZ 7 by decide), q8, if_pos rfl]
      simp only [zJn]
      rw [isLet7_f (by omega) (by omega) g, zsn, q0, if_pos rfl]
      (first | rw [if_pos (Or.inl rfl)] | rw [if_pos (Or.inl trivial)])
  obtain ⟨L, rfl⟩ : ∃ L : Nat, a = L := ⟨a.toNat, by omega⟩
  have hL : L < 2 := by omega
  obtain ⟨h2, w0, e2, R2, M2, S2, N2, f2⟩ := S.rt2 M hO hL
  have oW := rdok (L := L) hO N2
  have sW := rdso (L := L) hO N2
  have o1 := oW.1
  have o2 := oW.2.1
  by_cases gw : wall e L (e 3 L) w0 (nL e (e 3 L)) 0 0 ≤ y
  · refine ⟨h2, 0, e, ?_, Or.inl rfl, M2, hO, S2, ⟨f2 _ (by omega), f2 _ (by omega)⟩, fun k v9 x9 rt at9 K A Q hat => ?_⟩
    · unfold SB
      rw [q1, if_neg (show ¬ iZ 8 = iZ 1 by decide), q2, if_neg (show ¬ iZ 8 = iZ 2 by decide), q3, if_neg (show ¬ iZ 8 = iZ 3 by decide), q4, if_neg (show ¬ iZ 8 = iZ 4 by decide), q5, if_neg (show ¬ iZ 8 = iZ 5 by decide), q6, if_neg (show ¬ iZ 8 = iZ 6 by decide), q7, if_neg (show ¬ iZ 8 = iZ 7 by decide), q8, if_pos rfl]
      simp only [zJn]
      rw [isLet_t (by omega) (by omega), zsn, q0, if_neg (show ¬ iZ 1 = iZ 0 by decide), cs_r8 S.cs0, zsn, cs_r4 S.cs0, zsn, zsn, sh_g3 M, zsn, e2, zb2n, if_pos (by rw [iZ_le (by omega) (by omega) (by omega) (by omega)]; omega)]
      (first | rw [if_pos (Or.inl rfl)] | rw [if_pos (Or.inl trivial)])
    · obtain ⟨k2, v2, bg, sg, wo, g2, H2, D2, lo, K2⟩ := K.lw4 A Q hO hL N2
      refine ⟨k2, v2, rt, ?_, K2, lo, H2.2.2.2.2, Q⟩
      unfold DB
      rw [mo_r6 K.mo0, zsn, (im_ex A Q.1 hO da dy dc).choose_spec, zsn, q1, if_neg (show ¬ iZ 8 = iZ 1 by decide), q2, if_neg (show ¬ iZ 8 = iZ 2 by decide), q3, if_neg (show ¬ iZ 8 = iZ 3 by decide), q4, if_neg (show ¬ iZ 8 = iZ 4 by decide), q5, if_neg (show ¬ iZ 8 = iZ 5 by decide), q6, if_neg (show ¬ iZ 8 = iZ 6 by decide), q7, if_neg (show ¬ iZ 8 = iZ 7 by decide), q8, if_pos rfl]
      simp only [zJn]
      rw [isLet7_t (by omega) (by omega), zsn, q0, if_neg (show ¬ iZ 1 = iZ 0 by decide), zsn, zsn, gap7 A Q, zsn, g2, zb2n, if_pos (by rw [iZ_le (by omega) (by omega) (by omega) (by omega)]; omega)]
      (first | rw [if_pos (Or.inl rfl)] | rw [if_pos (Or.inl trivial)])
  have lw := wlen_le sW oW (i := y) (by omega) (by omega)
  have iw := wlen_in sW oW (i := y) (by omega) (by omega)
  have w5 : wall e L (e 3 L) w0 (nL e (e 3 L)) 0 5 ≤ 81 := oW.2.2.2.2.2.1
  refine ⟨h2, if wlen (wall e L (e 3 L) w0 (nL e (e 3 L))) y = 10 * c + q then 1 else 0, e, ?_, ?_, M2, hO, S2, ⟨f2 _ (by omega), f2 _ (by omega)⟩, fun k v9 x9 rt at9 K A Q hat => ?_⟩
  · unfold SB
    rw [q1, if_neg (show ¬ iZ 8 = iZ 1 by decide), q2, if_neg (show ¬ iZ 8 = iZ 2 by decide), q3, if_neg (show ¬ iZ 8 = iZ 3 by decide), q4, if_neg (show ¬ iZ 8 = iZ 4 by decide), q5, if_neg (show ¬ iZ 8 = iZ 5 by decide), q6, if_neg (show ¬ iZ 8 = iZ 6 by decide), q7, if_neg (show ¬ iZ 8 = iZ 7 by decide), q8, if_pos rfl]
    simp only [zJn]
    rw [isLet_t (by omega) (by omega), zsn, q0, if_neg (show ¬ iZ 1 = iZ 0 by decide), cs_r8 S.cs0, zsn, cs_r4 S.cs0, zsn, zsn, sh_g3 M, zsn, e2, zb2n, if_neg (by rw [iZ_le (by omega) (by omega) (by omega) (by omega)]; omega), cs_r8 S2.cs0, zsn, lengthOf_eq R2 oW (by omega) (by omega), zsn, q10, iZ_mul, iZ_add]
    by_cases c1 : wlen (wall e L (e 3 L) w0 (nL e (e 3 L))) y = 10 * c + q
    · rw [if_pos (by rw [c1]), if_pos c1]
      (first | rw [if_pos (Or.inr rfl)] | rw [if_pos (Or.inr trivial)])
    · rw [if_neg (by rw [iZ_eq (by omega) (by omega) (by omega) (by omega)]; exact c1), if_neg c1]
      (first | rw [if_pos (Or.inl rfl)] | rw [if_pos (Or.inl trivial)])
  · split <;> omega
  · obtain ⟨k2, v2, bg, sg, wo, g2, H2, D2, lo, K2⟩ := K.lw4 A Q hO hL N2
    refine ⟨k2, v2, rt, ?_, K2, lo, H2.2.2.2.2, Q⟩
    have hl := wds_len D2 (i := y) (by omega) (by omega)
    have za : zai T k2 (b + 354 + 10) (iZ (y + 1)) = some (iZ (bg (y + 1).toNat)) := zai_Arr H2.2.1 (by omega) (by omega) (by omega)
    have zb : zai T k2 (b + 354 + 10) (iZ y) = some (iZ (bg y.toNat)) := zai_Arr H2.2.1 (by omega) (by omega) (by omega)
    unfold DB
    rw [mo_r6 K.mo0, zsn, (im_ex A Q.1 hO da dy dc).choose_spec, zsn, q1, if_neg (show ¬ iZ 8 = iZ 1 by decide), q2, if_neg (show ¬ iZ 8 = iZ 2 by decide), q3, if_neg (show ¬ iZ 8 = iZ 3 by decide), q4, if_neg (show ¬ iZ 8 = iZ 4 by decide), q5, if_neg (show ¬ iZ 8 = iZ 5 by decide), q6, if_neg (show ¬ iZ 8 = iZ 6 by decide), q7, if_neg (show ¬ iZ 8 = iZ 7 by decide), q8, if_pos rfl]
    simp only [zJn]
    rw [isLet7_t (by omega) (by omega), zsn, q0, if_neg (show ¬ iZ 1 = iZ 0 by decide), zsn, zsn, gap7 A Q, zsn, g2, zb2n, if_neg (by rw [iZ_le (by omega) (by omega) (by omega) (by omega)]; omega), mo_r13 K2.mo0, zsn, iZ_add, za, zsn, zsn, zb, zsn, iZ_sub, hl]
    by_cases c1 : wlen (wall e L (e 3 L) w0 (nL e (e 3 L))) y = 10 * c + q
    · rw [if_pos (by rw [c1]), if_pos c1]
      (first | rw [if_pos (Or.inr rfl)] | rw [if_pos (Or.inr trivial)])
    · rw [if_neg (by rw [iZ_eq (by omega) (by omega) (by omega) (by omega)]; exact c1), if_neg c1]
      (first | rw [if_pos (Or.inl rfl)] | rw [if_pos (Or.inl trivial)])
theorem cmd9 (S : St T h b o n tx d cnt nxt dd fl ds fs v tx7 r D kp kb x) (M : ShAt T h (b + 21) e) (hO : OkD e) {a y c q : Int} (da : 0 ≤ a ∧ a ≤ 9) (dy : 0 ≤ y ∧ y ≤ 9) (dc : 0 ≤ c ∧ c ≤ 9) (dq : 0 ≤ q ∧ q ≤ 9) : CC T h b o n tx d cnt nxt dd fl ds fs v tx7 r D kp kb x 9 a y c q e := by
  by_cases g : inG e a y ∧ 0 ≤ c ∧ c < cn e a y
  case neg =>
    refine cc_no S M hO ?_ (fun k v9 x9 rt at9 K A Q hat => ?_)
    · unfold SB 
      rw [q1, if_neg (show ¬ iZ 9 = iZ 1 by decide), q2, if_neg (show ¬ iZ 9 = iZ 2 by decide), q3, if_neg (show ¬ iZ 9 = iZ 3 by decide), q4, if_neg (show ¬ iZ 9 = iZ 4 by decide), q5, if_neg (show ¬ iZ 9 = iZ 5 by decide), q6, if_neg (show ¬ iZ 9 = iZ 6 by decide), q7, if_neg (show ¬ iZ 9 = iZ 7 by decide), q8, if_neg (show ¬ iZ 9 = iZ 8 by decide), q9, if_pos rfl]
      simp only [zJn]
      rw [cs_r4 S.cs0, zsn, hasMark_f M hO (by omega) (by omega) (by omega) (by omega) (by omega) (by omega) g, zsn, q0, if_pos rfl]
      (first | rw [if_pos (Or.inl rfl)] | rw [if_pos (Or.inl trivial)])
    · unfold DB
      rw [mo_r6 K.mo0, zsn, isMark_f A Q.1 hO (by omega) (by omega) (by omega) (by omega) (by omega) (by omega) g, zsn, q1, if_neg (show ¬ iZ 9 = iZ 1 by decide), q2, if_neg (show ¬ iZ 9 = iZ 2 by decide), q3, if_neg (show ¬ iZ 9 = iZ 3 by decide), q4, if_neg (show ¬ iZ 9 = iZ 4 by decide), q5, if_neg (show ¬ iZ 9 = iZ 5 by decide), q6, if_neg (show ¬ iZ 9 = iZ 6 by decide), q7, if_neg (show ¬ iZ 9 = iZ 7 by decide), q8, if_neg (show ¬ iZ 9 = iZ 8 by decide), q9, if_pos rfl]
      simp only [zJn]
      rw [q0, if_pos rfl]
      (first | rw [if_pos (Or.inl rfl)] | rw [if_pos (Or.inl trivial)])
  have hcn := hO.cn g.1
  have g9 := hO.g9 g.1
  by_cases gq : q ≤ 2
  case neg =>
    refine cc_no S M hO ?_ (fun k v9 x9 rt at9 K A Q hat => ?_)
    · unfold SB 
      rw [q1, if_neg (show ¬ iZ 9 = iZ 1 by decide), q2, if_neg (show ¬ iZ 9 = iZ 2 by decide), q3, if_neg (show ¬ iZ 9 = iZ 3 by decide), q4, if_neg (show ¬ iZ 9 = iZ 4 by decide), q5, if_neg (show ¬ iZ 9 = iZ 5 by decide), q6, if_neg (show ¬ iZ 9 = iZ 6 by decide), q7, if_neg (show ¬ iZ 9 = iZ 7 by decide), q8, if_neg (show ¬ iZ 9 = iZ 8 by decide), q9, if_pos rfl]
      simp only [zJn]
      rw [cs_r4 S.cs0, zsn, hasMark_t M hO g.1 g.2.1 g.2.2, zsn, q0, if_neg (show ¬ iZ 1 = iZ 0 by decide), if_pos (by rw [iZ_lt (by omega) (by omega) (by omega) (by omega)]; omega)]
      (first | rw [if_pos (Or.inl rfl)] | rw [if_pos (Or.inl trivial)])
    · unfold DB
      rw [mo_r6 K.mo0, zsn, isMark_t A Q.1 hO g.1 g.2.1 g.2.2, zsn, q1, if_neg (show ¬ iZ 9 = iZ 1 by decide), q2, if_neg (show ¬ iZ 9 = iZ 2 by decide), q3, if_neg (show ¬ iZ 9 = iZ 3 by decide), q4, if_neg (show ¬ iZ 9 = iZ 4 by decide), q5, if_neg (show ¬ iZ 9 = iZ 5 by decide), q6, if_neg (show ¬ iZ 9 = iZ 6 by decide), q7, if_neg (show ¬ iZ 9 = iZ 7 by decide), q8, if_neg (show ¬ iZ 9 = iZ 8 by decide), q9, if_pos rfl]
      simp only [zJn]
      rw [q0, if_neg (show ¬ iZ 1 = iZ 0 by decide), if_pos (by rw [iZ_le (by omega) (by omega) (by omega) (by omega)]; omega)]
      (first | rw [if_pos (Or.inl rfl)] | rw [if_pos (Or.inl trivial)])
  have ho := ownof_in hO (i := c) g.1
  have e6 : FX3_ownerOf T (b + 21) (iZ a) (iZ y) (iZ c) h = some (iZ (ownof e a y c)) := own_of M hO g.1 g.2.1 (by omega)
  refine ⟨h, if ownof e a y c = (if 0 ≤ q ∧ q < 2 then q else -9) then 1 else 0, e, ?_, ?_, M, hO, S, ⟨rfl, rfl⟩, fun k v9 x9 rt at9 K A Q hat => ⟨k, v9, rt, ?_, K, fun _ _ => rfl, A, Q⟩⟩
  · unfold SB
    rw [q1, if_neg (show ¬ iZ 9 = iZ 1 by decide), q2, if_neg (show ¬ iZ 9 = iZ 2 by decide), q3, if_neg (show ¬ iZ 9 = iZ 3 by decide), q4, if_neg (show ¬ iZ 9 = iZ 4 by decide), q5, if_neg (show ¬ iZ 9 = iZ 5 by decide), q6, if_neg (show ¬ iZ 9 = iZ 6 by decide), q7, if_neg (show ¬ iZ 9 = iZ 7 by decide), q8, if_neg (show ¬ iZ 9 = iZ 8 by decide), q9, if_pos rfl]
    simp only [zJn]
    rw [cs_r4 S.cs0, zsn, hasMark_t M hO g.1 g.2.1 g.2.2, zsn, q0, if_neg (show ¬ iZ 1 = iZ 0 by decide), if_neg (by rw [iZ_lt (by omega) (by omega) (by omega) (by omega)]; omega), zsn, e6, zsn, letOr (by omega) (by omega), zsn]
    by_cases c1 : ownof e a y c = (if 0 ≤ q ∧ q < 2 then q else -9)
    · rw [if_pos (by rw [c1]), if_pos c1]
      (first | rw [if_pos (Or.inr rfl)] | rw [if_pos (Or.inr trivial)])
    · have c2 : ¬ iZ (ownof e a y c) = iZ (if 0 ≤ q ∧ q < 2 then q else -9) := by
        have hb : -9 ≤ (if 0 ≤ q ∧ q < 2 then q else -9) ∧ (if 0 ≤ q ∧ q < 2 then q else -9) ≤ 2 := by split <;> omega
        rw [iZ_eq (by omega) (by omega) (by omega) (by omega)]
        exact c1
      rw [if_neg c2, if_neg c1]
      (first | rw [if_pos (Or.inl rfl)] | rw [if_pos (Or.inl trivial)])
  · split <;> omega
  · have e7 := belongs_eq A Q hO g.1 g.2.1 g.2.2
    unfold DB
    rw [mo_r6 K.mo0, zsn, isMark_t A Q.1 hO g.1 g.2.1 g.2.2, zsn, q1, if_neg (show ¬ iZ 9 = iZ 1 by decide), q2, if_neg (show ¬ iZ 9 = iZ 2 by decide), q3, if_neg (show ¬ iZ 9 = iZ 3 by decide), q4, if_neg (show ¬ iZ 9 = iZ 4 by decide), q5, if_neg (show ¬ iZ 9 = iZ 5 by decide), q6, if_neg (show ¬ iZ 9 = iZ 6 by decide), q7, if_neg (show ¬ iZ 9 = iZ 7 by decide), q8, if_neg (show ¬ iZ 9 = iZ 8 by decide), q9, if_pos rfl]
    simp only [zJn]
    rw [q0, if_neg (show ¬ iZ 1 = iZ 0 by decide), if_neg (by rw [iZ_le (by omega) (by omega) (by omega) (by omega)]; omega), zsn, hat (by omega) (by omega), e7, zsn, iZ_neg]
    by_cases c0 : q = 2
    · rw [if_pos (by rw [c0]), show (if 0 ≤ q ∧ q < 2 then q else -9) = -9 from if_neg (by omega)]
      by_cases c1 : ownof e a y c = -9
      · rw [if_pos (by rw [c1]), if_pos c1]
        (first | rw [if_pos (Or.inr rfl)] | rw [if_pos (Or.inr trivial)])
      · rw [if_neg (by rw [iZ_eq (by omega) (by omega) (by omega) (by omega)]; exact c1), if_neg c1]
        (first | rw [if_pos (Or.inl rfl)] | rw [if_pos (Or.inl trivial)])
    · rw [if_neg (by rw [iZ_eq (by omega) (by omega) (by omega) (by omega)]; exact c0), show (if 0 ≤ q ∧ q < 2 then q else -9) = q from if_pos (by omega)]
      by_cases c1 : ownof e a y c = q
      · rw [if_pos (by rw [c1]), if_pos c1]
        (first | rw [if_pos (Or.inr rfl)] | rw [if_pos (Or.inr trivial)])
      · rw [if_neg (by rw [iZ_eq (by omega) (by omega) (by omega) (by omega)]; exact c1), if_neg c1]
        (first | rw [if_pos (Or.inl rfl)] | rw [if_pos (Or.inl trivial)])
theorem cmd0 (S : St T h b o n tx d cnt nxt dd fl ds fs v tx7 r D kp kb x) (M : ShAt T h (b + 21) e) (hO : OkD e) {a y c q : Int} (da : 0 ≤ a ∧ a ≤ 9) (dy : 0 ≤ y ∧ y ≤ 9) (dc : 0 ≤ c ∧ c ≤ 9) (dq : 0 ≤ q ∧ q ≤ 9) : CC T h b o n tx d cnt nxt dd fl ds fs v tx7 r D kp kb x 0 a y c q e := by
  refine cc_no S M hO ?_ (fun k v9 x9 rt at9 K A Q hat => ?_)
  · unfold SB
    rw [q1, if_neg (show ¬ iZ 0 = iZ 1 by decide), q2, if_neg (show ¬ iZ 0 = iZ 2 by decide), q3, if_neg (show ¬ iZ 0 = iZ 3 by decide), q4, if_neg (show ¬ iZ 0 = iZ 4 by decide), q5, if_neg (show ¬ iZ 0 = iZ 5 by decide), q6, if_neg (show ¬ iZ 0 = iZ 6 by decide), q7, if_neg (show ¬ iZ 0 = iZ 7 by decide), q8, if_neg (show ¬ iZ 0 = iZ 8 by decide), q9, if_neg (show ¬ iZ 0 = iZ 9 by decide), q0]
  · unfold DB
    rw [mo_r6 K.mo0, zsn, (im_ex A Q.1 hO da dy dc).choose_spec, zsn, q1, if_neg (show ¬ iZ 0 = iZ 1 by decide), q2, if_neg (show ¬ iZ 0 = iZ 2 by decide), q3, if_neg (show ¬ iZ 0 = iZ 3 by decide), q4, if_neg (show ¬ iZ 0 = iZ 4 by decide), q5, if_neg (show ¬ iZ 0 = iZ 5 by decide), q6, if_neg (show ¬ iZ 0 = iZ 6 by decide), q7, if_neg (show ¬ iZ 0 = iZ 7 by decide), q8, if_neg (show ¬ iZ 0 = iZ 8 by decide), q9, if_neg (show ¬ iZ 0 = iZ 9 by decide), q0]
/-- any command -/
theorem cmd_any (S : St T h b o n tx d cnt nxt dd fl ds fs v tx7 r D kp kb x) (M : ShAt T h (b + 21) e) (hO : OkD e) {g : Int} (g1 : 0 ≤ g) (g2 : g < 100000) : CC T h b o n tx d cnt nxt dd fl ds fs v tx7 r D kp kb x (g / 10000) (g / 1000 % 10) (g / 100 % 10) (g / 10 % 10) (g % 10) e := by
  have da : 0 ≤ g / 1000 % 10 ∧ g / 1000 % 10 ≤ 9 := by omega
  have dy : 0 ≤ g / 100 % 10 ∧ g / 100 % 10 ≤ 9 := by omega
  have dc : 0 ≤ g / 10 % 10 ∧ g / 10 % 10 ≤ 9 := by omega
  have dq : 0 ≤ g % 10 ∧ g % 10 ≤ 9 := by omega
  rcases (show g / 10000 = 0 ∨ g / 10000 = 1 ∨ g / 10000 = 2 ∨ g / 10000 = 3 ∨ g / 10000 = 4 ∨ g / 10000 = 5 ∨ g / 10000 = 6 ∨ g / 10000 = 7 ∨ g / 10000 = 8 ∨ g / 10000 = 9 by omega) with w | w | w | w | w | w | w | w | w | w
  · rw [w]; exact cmd0 S M hO da dy dc dq
  · rw [w]; exact cmd1 S M hO da dy dc dq
  · rw [w]; exact cmd2 S M hO da dy dc dq
  · rw [w]; exact cmd3 S M hO da dy dc dq
  · rw [w]; exact cmd4 S M hO da dy dc dq
  · rw [w]; exact cmd5 S M hO da dy dc dq
  · rw [w]; exact cmd6 S M hO da dy dc dq
  · rw [w]; exact cmd7 S M hO da dy dc dq
  · rw [w]; exact cmd8 S M hO da dy dc dq
  · rw [w]; exact cmd9 S M hO da dy dc dq
end Ru
