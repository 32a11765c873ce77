/-! call: runScript; the commands 1 to 5 -/
section Rt
variable {T : zT} {h : zH} {b o : Nat} {n : Int} {tx : Nat → Int} {d : Nat → Nat → Int} {cnt nxt : Int} {dd : Nat → Nat → Nat → Int} {fl : Nat → Int} {ds : Nat → Nat → Nat → Int} {fs v tx7 r D kp kb : Nat → Int} {x : Int64}
variable {h' : zH} {e : Nat → Nat → Int}
theorem im_ex {a9 : Nat} {rt : Nat → Int} {k : zH} (A : Arr T k a9 739 rt) (Q : PgM e rt) (hO : OkD e) {a y c : Int} (da : 0 ≤ a ∧ a ≤ 9) (dy : 0 ≤ y ∧ y ≤ 9) (dc : 0 ≤ c ∧ c ≤ 9) : ∃ z, FX7_isMark T a9 (iZ a) (iZ y) (iZ c) k = some z := by
  by_cases g : inG e a y ∧ 0 ≤ c ∧ c < cn e a y
  · exact ⟨_, isMark_t A Q hO g.1 g.2.1 g.2.2⟩
  · exact ⟨_, isMark_f A Q hO (by omega) (by omega) (by omega) (by omega) (by omega) (by omega) g⟩
theorem cmd1 (S : St T h b o n tx d cnt nxt dd fl ds fs v tx7 r D kp kb x) (M : ShAt T h (b + 21) e) (hO : OkD e) {a y c q : Int} (da : 0 ≤ a ∧ a ≤ 9) (dy : 0 ≤ y ∧ y ≤ 9) (dc : 0 ≤ c ∧ c ≤ 9) (dq : 0 ≤ q ∧ q ≤ 9) : CC T h b o n tx d cnt nxt dd fl ds fs v tx7 r D kp kb x 1 a y c q e := by
  by_cases g : inG e a y ∧ 0 ≤ c ∧ c < cn e a y
  case neg =>
    refine cc_no S M hO ?_ (fun k v9 x9 rt at9 K A Q hat => ?_)
    · unfold SB FX6_tryDecide
      rw [q1, if_pos rfl]
      rw [cs_zo S.cs0, zsn]
      simp only [zJn]
      rw [cs_r4 S.cs0, zsn, hasMark_f M hO (by omega) (by omega) (by omega) (by omega) (by omega) (by omega) g, zsn, q0, if_pos rfl, zb2n, if_pos (Or.inl rfl)]
    · unfold DB
      rw [mo_r6 K.mo0, zsn, isMark_f A Q.1 hO (by omega) (by omega) (by omega) (by omega) (by omega) (by omega) g, zsn, q1, if_pos rfl]
      simp only [zJn]
      rw [q0, if_pos rfl]
  have hcn := hO.cn g.1
  have g9 := hO.g9 g.1
  have hce := cel_in g9
  by_cases gq : q ≤ 2
  case neg =>
    refine cc_no S M hO ?_ (fun k v9 x9 rt at9 K A Q hat => ?_)
    · unfold SB FX6_tryDecide
      rw [q1, if_pos rfl]
      rw [cs_zo S.cs0, zsn]
      simp only [zJn]
      rw [cs_r4 S.cs0, zsn, hasMark_t M hO g.1 g.2.1 g.2.2, zsn, q0, if_neg (show ¬ iZ 1 = iZ 0 by decide), q2, if_pos (by rw [iZ_lt (by omega) (by omega) (by omega) (by omega)]; omega), zb2n, if_pos (Or.inl rfl)]
    · unfold DB
      rw [mo_r6 K.mo0, zsn, isMark_t A Q.1 hO g.1 g.2.1 g.2.2, zsn, q1, if_pos rfl]
      simp only [zJn]
      rw [q0, if_neg (show ¬ iZ 1 = iZ 0 by decide), q2, if_pos (by rw [iZ_lt (by omega) (by omega) (by omega) (by omega)]; omega)]
  by_cases gd : (0 ≤ q ∧ q < 2) ∧ dec e a y (1 - c) = q
  case pos =>
    refine cc_no S M hO ?_ (fun k v9 x9 rt at9 K A Q hat => ?_)
    · unfold SB FX6_tryDecide
      rw [q1, if_pos rfl]
      rw [cs_zo S.cs0, zsn]
      simp only [zJn]
      rw [cs_r4 S.cs0, zsn, hasMark_t M hO g.1 g.2.1 g.2.2, zsn, q0, if_neg (show ¬ iZ 1 = iZ 0 by decide), q2, if_neg (by rw [iZ_lt (by omega) (by omega) (by omega) (by omega)]; omega), zsn, other_eq M hO g.1 g.2.1 (by omega) (by omega) (by omega), zsn, show (if (0 ≤ q ∧ q < 2) ∧ dec e a y (1 - c) = q then (1 : Int) else 0) = 1 from if_pos gd, if_neg (show ¬ iZ 1 = iZ 0 by decide), zb2n, if_pos (Or.inl rfl)]
    · unfold DB
      rw [mo_r6 K.mo0, zsn, isMark_t A Q.1 hO g.1 g.2.1 g.2.2, zsn, q1, if_pos rfl]
      simp only [zJn]
      rw [q0, if_neg (show ¬ iZ 1 = iZ 0 by decide), q2, if_neg (by rw [iZ_lt (by omega) (by omega) (by omega) (by omega)]; omega), zsn, hat (by omega) (by omega), canDecide_eq A Q.1 hO g.1 g.2.1 g.2.2 (by omega) (by omega), zsn, show (if (0 ≤ q ∧ q < 2) ∧ dec e a y (1 - c) = q then (0 : Int) else 1) = 0 from if_pos gd, if_pos rfl]
  obtain ⟨h2, e2, M2, f2⟩ := putDecision_eq (z := q) M hO g.1 g.2.1 g.2.2 (by omega) (by omega)
  have hOn : OkD (ddec e a y c (if 0 ≤ q ∧ q < 2 then q else -9)) := OkD_dec hO g.1 g.2.1 g.2.2 (by
    by_cases c0 : 0 ≤ q ∧ q < 2
    · rw [if_pos c0]; exact Or.inr ⟨by omega, fun z => gd ⟨c0, z⟩⟩
    · rw [if_neg c0]; exact Or.inl rfl)
  refine ⟨h2, 1, _, ?_, Or.inr rfl, M2, hOn, S.trial M2 f2, ⟨f2 _ (by omega), f2 _ (by omega)⟩, fun k v9 x9 rt at9 K A Q hat => ?_⟩
  · unfold SB FX6_tryDecide
    rw [q1, if_pos rfl]
    rw [cs_zo S.cs0, zsn]
    simp only [zJn]
    rw [cs_r4 S.cs0, zsn, hasMark_t M hO g.1 g.2.1 g.2.2, zsn, q0, if_neg (show ¬ iZ 1 = iZ 0 by decide), q2, if_neg (by rw [iZ_lt (by omega) (by omega) (by omega) (by omega)]; omega), zsn, other_eq M hO g.1 g.2.1 (by omega) (by omega) (by omega), zsn, show (if (0 ≤ q ∧ q < 2) ∧ dec e a y (1 - c) = q then (1 : Int) else 0) = 0 from if_neg gd, if_pos rfl, zsn, e2, zsn, zb2n, if_pos (Or.inr rfl)]
  · obtain ⟨k2, g2, A2, p2⟩ := decideOn_eq (z := q) A hce.1 hce.2 g.2.1 (by omega) dq.1 gq
    refine ⟨k2, v9, _, ?_, K.trial7 A2 p2, fun _ _ => rfl, A2, Pg_dec Q hO g.1 g.2.1 g.2.2⟩
    unfold DB
    rw [mo_r6 K.mo0, zsn, isMark_t A Q.1 hO g.1 g.2.1 g.2.2, zsn, q1, if_pos rfl]
    simp only [zJn]
    rw [q0, if_neg (show ¬ iZ 1 = iZ 0 by decide), q2, if_neg (by rw [iZ_lt (by omega) (by omega) (by omega) (by omega)]; omega), zsn, hat (by omega) (by omega), canDecide_eq A Q.1 hO g.1 g.2.1 g.2.2 (by omega) (by omega), zsn, show (if (0 ≤ q ∧ q < 2) ∧ dec e a y (1 - c) = q then (0 : Int) else 1) = 1 from if_neg gd, if_neg (show ¬ iZ 1 = iZ 0 by decide), zsn, g2, zsn]
theorem cmd2 (S : St T h b o n tx d cnt nxt dd fl ds fs v tx7 r D kp kb x) (M : ShAt T h (b + 21) e) (hO : OkD e) {a y c q : Int} (da : 0 ≤ a ∧ a ≤ 9) (dy : 0 ≤ y ∧ y ≤ 9) (dc : 0 ≤ c ∧ c ≤ 9) (dq : 0 ≤ q ∧ q ≤ 9) : CC T h b o n tx d cnt nxt dd fl ds fs v tx7 r D kp kb x 2 a y c q e := by
  by_cases gq : q = 0
  case neg =>
    by_cases g : inG e a y ∧ 0 ≤ c ∧ c < cn e a y
    · refine cc_no S M hO ?_ (fun k v9 x9 rt at9 K A Q hat => ?_)
      · unfold SB 
        rw [q1, if_neg (show ¬ iZ 2 = iZ 1 by decide), q2, if_pos rfl]
        simp only [zJn]
        rw [q0, if_neg (by rw [iZ_eq (by omega) (by omega) (by omega) (by omega)]; exact gq)]
        (first | rw [if_pos (Or.inl rfl)] | rw [if_pos (Or.inl trivial)])
      · unfold DB
        rw [mo_r6 K.mo0, zsn, isMark_t A Q.1 hO g.1 g.2.1 g.2.2, zsn, q1, if_neg (show ¬ iZ 2 = iZ 1 by decide), q2, if_pos rfl]
        simp only [zJn]
        rw [q0, if_neg (show ¬ iZ 1 = iZ 0 by decide), if_neg (by rw [iZ_eq (by omega) (by omega) (by omega) (by omega)]; exact gq)]
    · refine cc_no S M hO ?_ (fun k v9 x9 rt at9 K A Q hat => ?_)
      · unfold SB 
        rw [q1, if_neg (show ¬ iZ 2 = iZ 1 by decide), q2, if_pos rfl]
        simp only [zJn]
        rw [q0, if_neg (by rw [iZ_eq (by omega) (by omega) (by omega) (by omega)]; exact gq)]
        (first | rw [if_pos (Or.inl rfl)] | rw [if_pos (Or.inl trivial)])
      · unfold DB
        rw [mo_r6 K.mo0, zsn, isMark_f A Q.1 hO (by omega) (by omega) (by omega) (by omega) (by omega) (by omega) g, zsn, q1, if_neg (show ¬ iZ 2 = iZ 1 by decide), q2, if_pos rfl]
        simp only [zJn]
        rw [q0, if_pos rfl]
  subst gq
  by_cases g : inG e a y ∧ 0 ≤ c ∧ c < cn e a y
  case neg =>
    refine cc_no S M hO ?_ (fun k v9 x9 rt at9 K A Q hat => ?_)
    · unfold SB FX6_tryErase
      rw [q1, if_neg (show ¬ iZ 2 = iZ 1 by decide), q2, if_pos rfl]
      simp only [zJn]
      rw [q0, if_pos rfl, cs_zo S.cs0, zsn, cs_r4 S.cs0, zsn, hasMark_f M hO (by omega) (by omega) (by omega) (by omega) (by omega) (by omega) g, zsn, if_pos rfl, zb2n, if_pos rfl]
      (first | rw [if_pos (Or.inl rfl)] | rw [if_pos (Or.inl trivial)])
    · unfold DB
      rw [mo_r6 K.mo0, zsn, isMark_f A Q.1 hO (by omega) (by omega) (by omega) (by omega) (by omega) (by omega) g, zsn, q1, if_neg (show ¬ iZ 2 = iZ 1 by decide), q2, if_pos rfl]
      simp only [zJn]
      rw [q0, if_pos rfl]
  have hcn := hO.cn g.1
  have g9 := hO.g9 g.1
  have hce := cel_in g9
  obtain ⟨h2, e2, M2, f2⟩ := removeMark_eq M hO g.1 g.2.1 g.2.2
  refine ⟨h2, 1, _, ?_, Or.inr rfl, M2, OkD_rem hO g.1 g.2.1 g.2.2, S.trial M2 f2, ⟨f2 _ (by omega), f2 _ (by omega)⟩, fun k v9 x9 rt at9 K A Q hat => ?_⟩
  · unfold SB FX6_tryErase
    rw [q1, if_neg (show ¬ iZ 2 = iZ 1 by decide), q2, if_pos rfl]
    simp only [zJn]
    rw [q0, if_pos rfl, cs_zo S.cs0, zsn, cs_r4 S.cs0, zsn, hasMark_t M hO g.1 g.2.1 g.2.2, zsn, if_neg (show ¬ iZ 1 = iZ 0 by decide), zsn, e2, zsn, zb2n, if_neg (show ¬ iZ 1 = iZ 0 by decide)]
    (first | rw [if_pos (Or.inr rfl)] | rw [if_pos (Or.inr trivial)])
  · obtain ⟨k2, g2, A2, p2⟩ := eraseOn_eq (i := c) A hce.1 hce.2 g.2.1 (by omega)
    refine ⟨k2, v9, _, ?_, K.trial7 A2 p2, fun _ _ => rfl, A2, Pg_rem Q hO g.1 g.2.1 g.2.2⟩
    unfold DB
    rw [mo_r6 K.mo0, zsn, isMark_t A Q.1 hO g.1 g.2.1 g.2.2, zsn, q1, if_neg (show ¬ iZ 2 = iZ 1 by decide), q2, if_pos rfl]
    simp only [zJn]
    rw [q0, if_neg (show ¬ iZ 1 = iZ 0 by decide), if_pos rfl, zsn, hat (by omega) (by omega), g2, zb2n]
theorem cmd3 (S : St T h b o n tx d cnt nxt dd fl ds fs v tx7 r D kp kb x) (M : ShAt T h (b + 21) e) (hO : OkD e) {a y c q : Int} (da : 0 ≤ a ∧ a ≤ 9) (dy : 0 ≤ y ∧ y ≤ 9) (dc : 0 ≤ c ∧ c ≤ 9) (dq : 0 ≤ q ∧ q ≤ 9) : CC T h b o n tx d cnt nxt dd fl ds fs v tx7 r D kp kb x 3 a y c q e := by
  by_cases g : 0 ≤ a ∧ a < 2
  case neg =>
    refine cc_no S M hO ?_ (fun k v9 x9 rt at9 K A Q hat => ?_)
    · unfold SB FX6_trySetLetter
      rw [q1, if_neg (show ¬ iZ 3 = iZ 1 by decide), q2, if_neg (show ¬ iZ 3 = iZ 2 by decide), q3, if_pos rfl]
      rw [cs_zo S.cs0, zsn]
      simp only [zJn]
      rw [isLet_f (by omega) (by omega) g, zsn, q0, if_pos rfl, zb2n, if_pos (Or.inl rfl)]
    · unfold DB
      rw [mo_r6 K.mo0, zsn, (im_ex A Q.1 hO da dy dc).choose_spec, zsn, q1, if_neg (show ¬ iZ 3 = iZ 1 by decide), q2, if_neg (show ¬ iZ 3 = iZ 2 by decide), q3, if_pos rfl]
      simp only [zJn]
      rw [isLet7_f (by omega) (by omega) g, zsn, q0, if_pos rfl]
  obtain ⟨L, rfl⟩ : ∃ L : Nat, a = L := ⟨a.toNat, by omega⟩
  have hL : L < 2 := by omega
  by_cases gp : (0 ≤ y ∧ y ≤ 3) ∧ (0 ≤ c ∧ c ≤ 8) ∧ (0 ≤ q ∧ q ≤ 1)
  case neg =>
    refine cc_no S M hO ?_ (fun k v9 x9 rt at9 K A Q hat => ?_)
    · unfold SB FX6_trySetLetter
      rw [q1, if_neg (show ¬ iZ 3 = iZ 1 by decide), q2, if_neg (show ¬ iZ 3 = iZ 2 by decide), q3, if_pos rfl]
      rw [cs_zo S.cs0, zsn]
      simp only [zJn]
      rw [isLet_t (by omega) (by omega), zsn, q0, if_neg (show ¬ iZ 1 = iZ 0 by decide)]
      by_cases c1 : 3 < y
      · rw [if_pos (by rw [iZ_lt (by omega) (by omega) (by omega) (by omega)]; omega), zb2n, if_pos (Or.inl rfl)]
      rw [if_neg (by rw [iZ_lt (by omega) (by omega) (by omega) (by omega)]; omega), q8]
      by_cases c2 : 8 < c
      · rw [if_pos (by rw [iZ_lt (by omega) (by omega) (by omega) (by omega)]; omega), zb2n, if_pos (Or.inl rfl)]
      rw [if_neg (by rw [iZ_lt (by omega) (by omega) (by omega) (by omega)]; omega), if_neg (by rw [iZ_le (by omega) (by omega) (by omega) (by omega)]; omega), zb2n, if_pos (Or.inl rfl)]
    · unfold DB
      rw [mo_r6 K.mo0, zsn, (im_ex A Q.1 hO da dy dc).choose_spec, zsn, q1, if_neg (show ¬ iZ 3 = iZ 1 by decide), q2, if_neg (show ¬ iZ 3 = iZ 2 by decide), q3, if_pos rfl]
      simp only [zJn]
      rw [isLet7_t (by omega) (by omega), zsn, q0, if_neg (show ¬ iZ 1 = iZ 0 by decide), isPen_f (by omega) (by omega) (by omega) (by omega) (by omega) (by omega) gp, zsn, if_pos rfl]
  obtain ⟨h2, e2, M2, f2⟩ := putLetter_eq (k := (L : Int)) (u := y) (v := c) (w := q) M g.1 g.2
  refine ⟨h2, 1, _, ?_, Or.inr rfl, M2, OkD_let hO ⟨by omega, by omega, by omega, by omega, by omega, by omega⟩, S.trial M2 f2, ⟨f2 _ (by omega), f2 _ (by omega)⟩, fun k v9 x9 rt at9 K A Q hat => ?_⟩
  · unfold SB FX6_trySetLetter
    rw [q1, if_neg (show ¬ iZ 3 = iZ 1 by decide), q2, if_neg (show ¬ iZ 3 = iZ 2 by decide), q3, if_pos rfl]
    rw [cs_zo S.cs0, zsn]
    simp only [zJn]
    rw [isLet_t (by omega) (by omega), zsn, q0, if_neg (show ¬ iZ 1 = iZ 0 by decide), if_neg (by rw [iZ_lt (by omega) (by omega) (by omega) (by omega)]; omega), q8, if_neg (by rw [iZ_lt (by omega) (by omega) (by omega) (by omega)]; omega), if_pos (by rw [iZ_le (by omega) (by omega) (by omega) (by omega)]; omega), cs_r4 S.cs0, zsn, e2, zsn, zb2n, if_pos (Or.inr rfl)]
  · obtain ⟨k2, g2, A2, p2⟩ := penOn_eq (u := y) (v := c) (w := q) A hL
    refine ⟨k2, v9, _, ?_, K.trial7 A2 p2, fun _ _ => rfl, A2, Pg_let Q hO hL⟩
    unfold DB
    rw [mo_r6 K.mo0, zsn, (im_ex A Q.1 hO da dy dc).choose_spec, zsn, q1, if_neg (show ¬ iZ 3 = iZ 1 by decide), q2, if_neg (show ¬ iZ 3 = iZ 2 by decide), q3, if_pos rfl]
    simp only [zJn]
    rw [isLet7_t (by omega) (by omega), zsn, q0, if_neg (show ¬ iZ 1 = iZ 0 by decide), isPen_t gp, zsn, if_neg (show ¬ iZ 1 = iZ 0 by decide), zsn, g2, zsn]
theorem cmd4 (S : St T h b o n tx d cnt nxt dd fl ds fs v tx7 r D kp kb x) (M : ShAt T h (b + 21) e) (hO : OkD e) {a y c q : Int} (da : 0 ≤ a ∧ a ≤ 9) (dy : 0 ≤ y ∧ y ≤ 9) (dc : 0 ≤ c ∧ c ≤ 9) (dq : 0 ≤ q ∧ q ≤ 9) : CC T h b o n tx d cnt nxt dd fl ds fs v tx7 r D kp kb x 4 a y c q e := by
  by_cases g : a = 0 ∧ y = 0 ∧ c = 0
  case neg =>
    refine cc_no S M hO ?_ (fun k v9 x9 rt at9 K A Q hat => ?_)
    · unfold SB
      rw [q1, if_neg (show ¬ iZ 4 = iZ 1 by decide), q2, if_neg (show ¬ iZ 4 = iZ 2 by decide), q3, if_neg (show ¬ iZ 4 = iZ 3 by decide), q4, if_pos rfl]
      simp only [zJn]
      rw [q0]
      by_cases c1 : a = 0
      · by_cases c2 : y = 0
        · have c3 : ¬ c = 0 := fun z => g ⟨c1, c2, z⟩
          rw [if_pos (by rw [show a = 0 from by omega]), if_pos (by rw [show y = 0 from by omega]), if_neg (by rw [iZ_eq (by omega) (by omega) (by omega) (by omega)]; omega)]
          (first | rw [if_pos (Or.inl rfl)] | rw [if_pos (Or.inl trivial)])
        · rw [if_pos (by rw [show a = 0 from by omega]), if_neg (by rw [iZ_eq (by omega) (by omega) (by omega) (by omega)]; omega)]
          (first | rw [if_pos (Or.inl rfl)] | rw [if_pos (Or.inl trivial)])
      · rw [if_neg (by rw [iZ_eq (by omega) (by omega) (by omega) (by omega)]; omega)]
        (first | rw [if_pos (Or.inl rfl)] | rw [if_pos (Or.inl trivial)])
    · unfold DB
      rw [mo_r6 K.mo0, zsn, (im_ex A Q.1 hO da dy dc).choose_spec, zsn, q1, if_neg (show ¬ iZ 4 = iZ 1 by decide), q2, if_neg (show ¬ iZ 4 = iZ 2 by decide), q3, if_neg (show ¬ iZ 4 = iZ 3 by decide), q4, if_pos rfl]
      rw [iZ_add, iZ_add, q0, if_neg (by rw [iZ_le (by omega) (by omega) (by omega) (by omega)]; omega)]
  obtain ⟨rfl, rfl, rfl⟩ := g
  obtain ⟨h2, e2, M2, f2⟩ := sh_set0 M (k := 2) (by omega) q
  refine ⟨h2, 1, _, ?_, Or.inr rfl, M2, OkD_margin hO dq.1 dq.2, S.trial M2 f2, ⟨f2 _ (by omega), f2 _ (by omega)⟩, fun k v9 x9 rt at9 K A Q hat => ?_⟩
  · unfold SB FX6_trySetMargin
    rw [q1, if_neg (show ¬ iZ 4 = iZ 1 by decide), q2, if_neg (show ¬ iZ 4 = iZ 2 by decide), q3, if_neg (show ¬ iZ 4 = iZ 3 by decide), q4, if_pos rfl]
    simp only [zJn]
    rw [q0, if_pos rfl, if_pos rfl, if_pos rfl, cs_zo S.cs0, zsn, cs_r4 S.cs0, zsn, e2, zsn, zb2n, if_neg (show ¬ iZ 1 = iZ 0 by decide)]
    (first | rw [if_pos (Or.inr rfl)] | rw [if_pos (Or.inr trivial)])
  · obtain ⟨k2, g2, A2, p2⟩ := zas_p (i := 2) (v := q) A (by omega) (by omega)
    refine ⟨k2, v9, _, ?_, K.trial7 A2 p2, fun _ _ => rfl, A2, Pg_margin Q hO⟩
    unfold DB
    rw [mo_r6 K.mo0, zsn, (im_ex A Q.1 hO da dy dc).choose_spec, zsn, q1, if_neg (show ¬ iZ 4 = iZ 1 by decide), q2, if_neg (show ¬ iZ 4 = iZ 2 by decide), q3, if_neg (show ¬ iZ 4 = iZ 3 by decide), q4, if_pos rfl]
    rw [iZ_add, iZ_add, q0, if_pos (by rw [iZ_le (by omega) (by omega) (by omega) (by omega)]; omega), zsn, g2, zsn]
theorem St.turnedT (S : St T h b o n tx d cnt nxt dd fl ds fs v tx7 r D kp kb x) {d' e' : Nat → Nat → Int} (M : ShAt T h' (b + 21) d') (E : ShAt T h' (b + 38) e') (f : ∀ q, (q < b + 21 ∨ b + 21 + 16 < q) → (q < b + 38 ∨ b + 38 + 16 < q) → h' q = h q) : St T h' b o n tx d cnt nxt dd fl ds fs v tx7 r D kp kb x := by
  obtain ⟨s1, s2, s3, s4, s5⟩ := S
  refine ⟨s1.kept (fun q hq => f q (by unfold cA at hq; omega) (by unfold cA at hq; omega)), s2.kept (fun q hq => f q (by unfold mA at hq; omega) (by unfold mA at hq; omega)), ?_, ov_kept s4 (f _ (by omega) (by omega)), s5⟩
  intro j hj
  have g : ∀ k : Nat, k < 15 → (k = 1 ∨ k = 2 ∨ (shi k < 21 ∨ 37 < slo k) ∧ (shi k < 38 ∨ 54 < slo k)) := by decide
  by_cases j1 : j = 1
  · rw [j1]; exact ⟨_, M⟩
  by_cases j2 : j = 2
  · rw [j2]; exact ⟨_, E⟩
  have gj := g j hj
  exact SC1.kept hj (s3 j hj) (fun q q1 q2 => f q (by omega) (by omega))
theorem St.turnedT7 (S : St T h b o n tx d cnt nxt dd fl ds fs v tx7 r D kp kb x) {r' R7 : Nat → Int} (M : Arr T h' (b + 354 + 4) 739 r') (E : Arr T h' (b + 354 + 5) 739 R7) (f : ∀ q, q ≠ b + 354 + 4 → q ≠ b + 354 + 5 → h' q = h q) : St T h' b o n tx d cnt nxt dd fl ds fs v tx7 r D kp kb x := by
  obtain ⟨s1, s2, s3, s4, s5⟩ := S
  refine ⟨s1.kept (fun q hq => f q (by unfold cA at hq; omega) (by unfold cA at hq; omega)), s2.kept (fun q hq => f q (by unfold mA at hq; omega) (by unfold mA at hq; omega)), ?_, ov_kept s4 (f _ (by omega) (by omega)), s5⟩
  intro j hj
  have g : ∀ k : Nat, k < 15 → (k = 8 ∨ k = 9 ∨ (shi k < 358 ∨ 358 < slo k) ∧ (shi k < 359 ∨ 359 < slo k)) := by decide
  by_cases j1 : j = 8
  · rw [j1]; exact ⟨_, M⟩
  by_cases j2 : j = 9
  · rw [j2]; exact ⟨_, E⟩
  have gj := g j hj
  exact SC1.kept hj (s3 j hj) (fun q q1 q2 => f q (by omega) (by omega))
theorem cmd5 (S : St T h b o n tx d cnt nxt dd fl ds fs v tx7 r D kp kb x) (M : ShAt T h (b + 21) e) (hO : OkD e) {a y c q : Int} (da : 0 ≤ a ∧ a ≤ 9) (dy : 0 ≤ y ∧ y ≤ 9) (dc : 0 ≤ c ∧ c ≤ 9) (dq : 0 ≤ q ∧ q ≤ 9) : CC T h b o n tx d cnt nxt dd fl ds fs v tx7 r D kp kb x 5 a y c q e := by
  by_cases g : a = 0 ∧ y = 0 ∧ c = 0 ∧ q = 0
  case neg =>
    refine cc_no S M hO ?_ (fun k v9 x9 rt at9 K A Q hat => ?_)
    · unfold SB
      rw [q1, if_neg (show ¬ iZ 5 = iZ 1 by decide), q2, if_neg (show ¬ iZ 5 = iZ 2 by decide), q3, if_neg (show ¬ iZ 5 = iZ 3 by decide), q4, if_neg (show ¬ iZ 5 = iZ 4 by decide), q5, if_pos rfl]
      simp only [zJn]
      rw [q0, q10, iZ_mul, iZ_add]
      by_cases c1 : a = 0
      · by_cases c2 : y = 0
        · have c3 : ¬ 10 * c + q = 0 := fun z => g ⟨c1, c2, by omega, by omega⟩
          rw [if_pos (by rw [show a = 0 from by omega]), if_pos (by rw [show y = 0 from by omega]), if_neg (by rw [iZ_eq (by omega) (by omega) (by omega) (by omega)]; omega)]
          (first | rw [if_pos (Or.inl rfl)] | rw [if_pos (Or.inl trivial)])
        · rw [if_pos (by rw [show a = 0 from by omega]), if_neg (by rw [iZ_eq (by omega) (by omega) (by omega) (by omega)]; omega)]
          (first | rw [if_pos (Or.inl rfl)] | rw [if_pos (Or.inl trivial)])
      · rw [if_neg (by rw [iZ_eq (by omega) (by omega) (by omega) (by omega)]; omega)]
        (first | rw [if_pos (Or.inl rfl)] | rw [if_pos (Or.inl trivial)])
    · unfold DB
      rw [mo_r6 K.mo0, zsn, (im_ex A Q.1 hO da dy dc).choose_spec, zsn, q1, if_neg (show ¬ iZ 5 = iZ 1 by decide), q2, if_neg (show ¬ iZ 5 = iZ 2 by decide), q3, if_neg (show ¬ iZ 5 = iZ 3 by decide), q4, if_neg (show ¬ iZ 5 = iZ 4 by decide), q5, if_pos rfl]
      rw [iZ_add, iZ_add, iZ_add, q0, if_neg (by rw [iZ_le (by omega) (by omega) (by omega) (by omega)]; omega)]
  obtain ⟨rfl, rfl, rfl, rfl⟩ := g
  have S12 : ∃ e, ShAt T h (b + 38) e := S.2.2.1 2 (by omega)
  obtain ⟨e0, E0⟩ := S12
  obtain ⟨h2, d', e9, e2, M2, E2, hsd, hT, f2⟩ := turnByQuarter_eq M E0 hO (by omega)
  have hOe := OkD_same hsd hO
  have hOd := OkD_turn hOe hT
  refine ⟨h2, 1, d', ?_, Or.inr rfl, M2, hOd, S.turnedT M2 E2 f2, ⟨f2 _ (by omega) (by omega), f2 _ (by omega) (by omega)⟩, fun k v9 x9 rt at9 K A Q hat => ?_⟩
  · unfold SB FX6_tryTurn
    rw [q1, if_neg (show ¬ iZ 5 = iZ 1 by decide), q2, if_neg (show ¬ iZ 5 = iZ 2 by decide), q3, if_neg (show ¬ iZ 5 = iZ 3 by decide), q4, if_neg (show ¬ iZ 5 = iZ 4 by decide), q5, if_pos rfl]
    simp only [zJn]
    rw [q0, q10, iZ_mul, iZ_add, if_pos rfl, if_pos rfl, if_pos (show iZ (10 * 0 + 0) = iZ 0 from rfl), cs_zo S.cs0, zsn, cs_r4 S.cs0, zsn, cs_r5 S.cs0, zsn, e2, zsn, zb2n, if_neg (show ¬ iZ 1 = iZ 0 by decide)]
    (first | rw [if_pos (Or.inr rfl)] | rw [if_pos (Or.inr trivial)])
  · have A9 : ∃ f, Arr T k (b + 354 + 5) 739 f := K.2.2.1 9 (by omega)
    obtain ⟨s9, B9⟩ := A9
    obtain ⟨k3, r3, R7, g3, A3, B3, hR, f3⟩ := turnOn_eq (mo_ex K.mo0) (mo_r7 K.mo0) A B9 (Pg_same hsd hO Q (fun j _ => rfl)) hOe (by omega) (by omega) (by omega)
    refine ⟨k3, v9, r3, ?_, K.turnedT7 A3 B3 f3, fun _ _ => rfl, A3, Pg_turn hOe hT hR⟩
    unfold DB
    rw [mo_r6 K.mo0, zsn, (im_ex A Q.1 hO da dy dc).choose_spec, zsn, q1, if_neg (show ¬ iZ 5 = iZ 1 by decide), q2, if_neg (show ¬ iZ 5 = iZ 2 by decide), q3, if_neg (show ¬ iZ 5 = iZ 3 by decide), q4, if_neg (show ¬ iZ 5 = iZ 4 by decide), q5, if_pos rfl]
    rw [iZ_add, iZ_add, iZ_add, q0, if_pos (by rw [iZ_le (by omega) (by omega) (by omega) (by omega)]; omega), zsn, g3, zsn]
end Rt
