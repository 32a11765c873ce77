/-! the class takes a character; its run over the text -/
section Tk5
variable {T : zT} {hz h : zH} {b o : Nat} {n : Int} {tx : Nat → Int} {d : Nat → Nat → Int} {cnt nxt : Int} {dd : Nat → Nat → Nat → Int} {fl : Nat → Int} {ds : Nat → Nat → Nat → Int} {fs v tx7 r D kp kb : Nat → Int} {x : Int64}
variable {h' : zH} {t : Nat → Int} {e : Nat → Nat → Int}
theorem tk0 (S : St T hz h b n tx d cnt nxt dd fl ds fs) (H : TrAt h (b + 3) t) (M : ShAt T h (b + 21) e)  {c : Int} (c1 : 0 ≤ c) (c2 : c ≤ 255) (ht : t 0 = 0) : ∃ h', FX5_take T (b + 3) (b + 21) (iZ c) h = some h' ∧ TrAt h' (b + 3) (upZ t 0 1) ∧ ShAt T h' (b + 21) (e) ∧ St T hz h' b n tx d cnt nxt dd fl ds fs := by
  have hd := dg_in (c := c)
  obtain ⟨h1, e1, H1, f1⟩ := tr_set H (k := 0) (by omega) 1
  refine ⟨h1, ?_, H1, M.kept (fun q q1 q2 => f1 q (by omega)), S.tr H1 f1⟩
  · unfold FX5_take
    rw [tr_zo H, zsn]
    simp only [zJn]
    rw [digitOf_eq c1 c2, zsn, tr_g0 H, zsn, ht, q0, if_pos rfl, q1, e1, zsn]
theorem set1 {c : Int} (H : TrAt h (b + 3) t) (M : ShAt T h (b + 21) e) (ht : t 0 = 1) (S : St T hz h b n tx d cnt nxt dd fl ds fs) : ∃ h', FX5_takeSetting T (b + 3) (b + 21) (iZ (dg c)) h = some h' ∧ TrAt h' (b + 3) (upZ t 0 2) ∧ ShAt T h' (b + 21) (dput e 0 0 (dg c)) ∧ St T hz h' b n tx d cnt nxt dd fl ds fs := by
  obtain ⟨h1, e1, M1, f1⟩ := sh_set0 M (k := 0) (by omega) (dg c)
  have H1 : TrAt h1 (b + 3) t := (f1 _ (by omega)).trans H
  have S1 := S.trial M1 f1
  obtain ⟨h2, e2, H2, f2⟩ := tr_set H1 (k := 0) (by omega) 2
  refine ⟨h2, ?_, H2, M1.kept (fun q q1 q2 => f2 q (by omega)), S1.tr H2 f2⟩
  unfold FX5_takeSetting
  rw [tr_zo H, zsn]
  simp only [zJn]
  rw [tr_g0 H, zsn, ht, q1, if_pos (show iZ 1 = iZ 1 from rfl), e1, zsn, tr_g0 H1, zsn, ht, if_pos (show iZ 1 = iZ 1 from rfl), q2, e2, zsn]
theorem tk1 (S : St T hz h b n tx d cnt nxt dd fl ds fs) (H : TrAt h (b + 3) t) (M : ShAt T h (b + 21) e)  {c : Int} (c1 : 0 ≤ c) (c2 : c ≤ 255) (ht : t 0 = 1) : ∃ h', FX5_take T (b + 3) (b + 21) (iZ c) h = some h' ∧ TrAt h' (b + 3) (upZ t 0 2) ∧ ShAt T h' (b + 21) (dput e 0 0 (dg c)) ∧ St T hz h' b n tx d cnt nxt dd fl ds fs := by
  have hd := dg_in (c := c)
  obtain ⟨h1, e1, H1, M1, S1⟩ := set1 (c := c) H M ht S
  refine ⟨h1, ?_, H1, M1, S1⟩
  · unfold FX5_take
    rw [tr_zo H, zsn]
    simp only [zJn]
    rw [digitOf_eq c1 c2, zsn, tr_g0 H, zsn, ht, q0, q1, if_neg (show ¬ iZ 1 = iZ 0 by decide), if_pos (show iZ 1 = iZ 1 from rfl), e1, zsn]
theorem set2 {c : Int} (H : TrAt h (b + 3) t) (M : ShAt T h (b + 21) e) (ht : t 0 = 2) (S : St T hz h b n tx d cnt nxt dd fl ds fs) : ∃ h', FX5_takeSetting T (b + 3) (b + 21) (iZ (dg c)) h = some h' ∧ TrAt h' (b + 3) (upZ t 0 3) ∧ ShAt T h' (b + 21) (dput e 0 1 (dg c)) ∧ St T hz h' b n tx d cnt nxt dd fl ds fs := by
  obtain ⟨h1, e1, M1, f1⟩ := sh_set0 M (k := 1) (by omega) (dg c)
  have H1 : TrAt h1 (b + 3) t := (f1 _ (by omega)).trans H
  have S1 := S.trial M1 f1
  obtain ⟨h2, e2, H2, f2⟩ := tr_set H1 (k := 0) (by omega) 3
  refine ⟨h2, ?_, H2, M1.kept (fun q q1 q2 => f2 q (by omega)), S1.tr H2 f2⟩
  unfold FX5_takeSetting
  rw [tr_zo H, zsn]
  simp only [zJn]
  rw [tr_g0 H, zsn, ht, q1, q2, if_neg (show ¬ iZ 2 = iZ 1 by decide), if_pos (show iZ 2 = iZ 2 from rfl), e1, zsn, tr_g0 H1, zsn, ht, if_neg (show ¬ iZ 2 = iZ 1 by decide), q3, e2, zsn]
theorem tk2 (S : St T hz h b n tx d cnt nxt dd fl ds fs) (H : TrAt h (b + 3) t) (M : ShAt T h (b + 21) e)  {c : Int} (c1 : 0 ≤ c) (c2 : c ≤ 255) (ht : t 0 = 2) : ∃ h', FX5_take T (b + 3) (b + 21) (iZ c) h = some h' ∧ TrAt h' (b + 3) (upZ t 0 3) ∧ ShAt T h' (b + 21) (dput e 0 1 (dg c)) ∧ St T hz h' b n tx d cnt nxt dd fl ds fs := by
  have hd := dg_in (c := c)
  obtain ⟨h1, e1, H1, M1, S1⟩ := set2 (c := c) H M ht S
  refine ⟨h1, ?_, H1, M1, S1⟩
  · unfold FX5_take
    rw [tr_zo H, zsn]
    simp only [zJn]
    rw [digitOf_eq c1 c2, zsn, tr_g0 H, zsn, ht, q0, q1, if_neg (show ¬ iZ 2 = iZ 0 by decide), if_neg (show ¬ iZ 2 = iZ 1 by decide), q2, if_pos (show iZ 2 = iZ 2 from rfl), e1, zsn]
theorem set9 {c : Int} (H : TrAt h (b + 3) t) (M : ShAt T h (b + 21) e) (ht : t 0 = 9) (S : St T hz h b n tx d cnt nxt dd fl ds fs) : ∃ h', FX5_takeSetting T (b + 3) (b + 21) (iZ (dg c)) h = some h' ∧ TrAt h' (b + 3) (upZ t 0 3) ∧ ShAt T h' (b + 21) (dput e 0 3 (dg c)) ∧ St T hz h' b n tx d cnt nxt dd fl ds fs := by
  obtain ⟨h1, e1, M1, f1⟩ := sh_set0 M (k := 3) (by omega) (dg c)
  have H1 : TrAt h1 (b + 3) t := (f1 _ (by omega)).trans H
  have S1 := S.trial M1 f1
  obtain ⟨h2, e2, H2, f2⟩ := tr_set H1 (k := 0) (by omega) 3
  refine ⟨h2, ?_, H2, M1.kept (fun q q1 q2 => f2 q (by omega)), S1.tr H2 f2⟩
  unfold FX5_takeSetting
  rw [tr_zo H, zsn]
  simp only [zJn]
  rw [tr_g0 H, zsn, ht, q1, q2, q9, if_neg (show ¬ iZ 9 = iZ 1 by decide), if_neg (show ¬ iZ 9 = iZ 2 by decide), if_pos (show iZ 9 = iZ 9 from rfl), e1, zsn, tr_g0 H1, zsn, ht, if_neg (show ¬ iZ 9 = iZ 1 by decide), q3, e2, zsn]
theorem tk9 (S : St T hz h b n tx d cnt nxt dd fl ds fs) (H : TrAt h (b + 3) t) (M : ShAt T h (b + 21) e)  {c : Int} (c1 : 0 ≤ c) (c2 : c ≤ 255) (ht : t 0 = 9) : ∃ h', FX5_take T (b + 3) (b + 21) (iZ c) h = some h' ∧ TrAt h' (b + 3) (upZ t 0 3) ∧ ShAt T h' (b + 21) (dput e 0 3 (dg c)) ∧ St T hz h' b n tx d cnt nxt dd fl ds fs := by
  have hd := dg_in (c := c)
  obtain ⟨h1, e1, H1, M1, S1⟩ := set9 (c := c) H M ht S
  refine ⟨h1, ?_, H1, M1, S1⟩
  · unfold FX5_take
    rw [tr_zo H, zsn]
    simp only [zJn]
    rw [digitOf_eq c1 c2, zsn, tr_g0 H, zsn, ht, q0, q1, if_neg (show ¬ iZ 9 = iZ 0 by decide), if_neg (show ¬ iZ 9 = iZ 1 by decide), q2, if_neg (show ¬ iZ 9 = iZ 2 by decide), q3, if_neg (show ¬ iZ 9 = iZ 3 by decide), q4, if_neg (show ¬ iZ 9 = iZ 4 by decide), q5, if_neg (show ¬ iZ 9 = iZ 5 by decide), q6, if_neg (show ¬ iZ 9 = iZ 6 by decide), q7, if_neg (show ¬ iZ 9 = iZ 7 by decide), q8, if_neg (show ¬ iZ 9 = iZ 8 by decide), q9, if_pos (show iZ 9 = iZ 9 from rfl), e1, zsn]
theorem set10 {c : Int} (H : TrAt h (b + 3) t) (M : ShAt T h (b + 21) e) (ht : t 0 = 10) (S : St T hz h b n tx d cnt nxt dd fl ds fs) : ∃ h', FX5_takeSetting T (b + 3) (b + 21) (iZ (dg c)) h = some h' ∧ TrAt h' (b + 3) (upZ t 0 3) ∧ ShAt T h' (b + 21) (dput e 0 2 (dg c)) ∧ St T hz h' b n tx d cnt nxt dd fl ds fs := by
  obtain ⟨h1, e1, M1, f1⟩ := sh_set0 M (k := 2) (by omega) (dg c)
  have H1 : TrAt h1 (b + 3) t := (f1 _ (by omega)).trans H
  have S1 := S.trial M1 f1
  obtain ⟨h2, e2, H2, f2⟩ := tr_set H1 (k := 0) (by omega) 3
  refine ⟨h2, ?_, H2, M1.kept (fun q q1 q2 => f2 q (by omega)), S1.tr H2 f2⟩
  unfold FX5_takeSetting
  rw [tr_zo H, zsn]
  simp only [zJn]
  rw [tr_g0 H, zsn, ht, q1, q2, q9, if_neg (show ¬ iZ 10 = iZ 1 by decide), if_neg (show ¬ iZ 10 = iZ 2 by decide), if_neg (show ¬ iZ 10 = iZ 9 by decide), e1, zsn, tr_g0 H1, zsn, ht, if_neg (show ¬ iZ 10 = iZ 1 by decide), q3, e2, zsn]
theorem tk10 (S : St T hz h b n tx d cnt nxt dd fl ds fs) (H : TrAt h (b + 3) t) (M : ShAt T h (b + 21) e)  {c : Int} (c1 : 0 ≤ c) (c2 : c ≤ 255) (ht : t 0 = 10) : ∃ h', FX5_take T (b + 3) (b + 21) (iZ c) h = some h' ∧ TrAt h' (b + 3) (upZ t 0 3) ∧ ShAt T h' (b + 21) (dput e 0 2 (dg c)) ∧ St T hz h' b n tx d cnt nxt dd fl ds fs := by
  have hd := dg_in (c := c)
  obtain ⟨h1, e1, H1, M1, S1⟩ := set10 (c := c) H M ht S
  refine ⟨h1, ?_, H1, M1, S1⟩
  · unfold FX5_take
    rw [tr_zo H, zsn]
    simp only [zJn]
    rw [digitOf_eq c1 c2, zsn, tr_g0 H, zsn, ht, q0, q1, if_neg (show ¬ iZ 10 = iZ 0 by decide), if_neg (show ¬ iZ 10 = iZ 1 by decide), q2, if_neg (show ¬ iZ 10 = iZ 2 by decide), q3, if_neg (show ¬ iZ 10 = iZ 3 by decide), q4, if_neg (show ¬ iZ 10 = iZ 4 by decide), q5, if_neg (show ¬ iZ 10 = iZ 5 by decide), q6, if_neg (show ¬ iZ 10 = iZ 6 by decide), q7, if_neg (show ¬ iZ 10 = iZ 7 by decide), q8, if_neg (show ¬ iZ 10 = iZ 8 by decide), q9, if_neg (show ¬ iZ 10 = iZ 9 by decide), q10, if_pos (show iZ 10 = iZ 10 from rfl), e1, zsn]
theorem tk3 (S : St T hz h b n tx d cnt nxt dd fl ds fs) (H : TrAt h (b + 3) t) (M : ShAt T h (b + 21) e)  {c : Int} (c1 : 0 ≤ c) (c2 : c ≤ 255) (ht : t 0 = 3) : ∃ h', FX5_take T (b + 3) (b + 21) (iZ c) h = some h' ∧ TrAt h' (b + 3) (upZ t 0 (if c = 109 then 4 else if c = 103 then 9 else if c = 118 then 10 else 11)) ∧ ShAt T h' (b + 21) (e) ∧ St T hz h' b n tx d cnt nxt dd fl ds fs := by
  have hd := dg_in (c := c)
  obtain ⟨h1, e1, H1, f1⟩ := tr_set H (k := 0) (by omega) (if c = 109 then 4 else if c = 103 then 9 else if c = 118 then 10 else 11)
  refine ⟨h1, ?_, H1, M.kept (fun q q1 q2 => f1 q (by omega)), S.tr H1 f1⟩
  · unfold FX5_take
    rw [tr_zo H, zsn]
    simp only [zJn]
    rw [digitOf_eq c1 c2, zsn, tr_g0 H, zsn, ht, q0, q1, if_neg (show ¬ iZ 3 = iZ 0 by decide), if_neg (show ¬ iZ 3 = iZ 1 by decide), q2, if_neg (show ¬ iZ 3 = iZ 2 by decide), q3, if_pos (show iZ 3 = iZ 3 from rfl), r109, r103, r118]
    by_cases g1 : c = 109
    · rw [if_pos g1] at e1
      rw [if_pos (by rw [iZ_eq (by omega) (by omega) (by omega) (by omega)]; omega), q4, e1, zsn]
    rw [if_neg g1] at e1
    rw [if_neg (by rw [iZ_eq (by omega) (by omega) (by omega) (by omega)]; omega)]
    by_cases g2 : c = 103
    · rw [if_pos g2] at e1
      rw [if_pos (by rw [iZ_eq (by omega) (by omega) (by omega) (by omega)]; omega), q9, e1, zsn]
    rw [if_neg g2] at e1
    rw [if_neg (by rw [iZ_eq (by omega) (by omega) (by omega) (by omega)]; omega)]
    by_cases g3 : c = 118
    · rw [if_pos g3] at e1
      rw [if_pos (by rw [iZ_eq (by omega) (by omega) (by omega) (by omega)]; omega), q10, e1, zsn]
    rw [if_neg g3] at e1
    rw [if_neg (by rw [iZ_eq (by omega) (by omega) (by omega) (by omega)]; omega), r11, e1, zsn]
theorem mk4 (S : St T hz h b n tx d cnt nxt dd fl ds fs) (H : TrAt h (b + 3) t) (M : ShAt T h (b + 21) e) {c : Int} (c1 : 0 ≤ c) (c2 : c ≤ 255) (ht : t 0 = 4) : ∃ h', FX5_takeOfMark T (b + 3) (b + 21) (iZ c) h = some h' ∧ TrAt h' (b + 3) (upZ (upZ t 1 (dg c)) 0 5) ∧ ShAt T h' (b + 21) e ∧ St T hz h' b n tx d cnt nxt dd fl ds fs := by
  obtain ⟨h1, e1, H1, f1⟩ := tr_set H (k := 1) (by omega) (dg c)
  have S1 := S.tr H1 f1
  obtain ⟨h2, e2, H2, f2⟩ := tr_set H1 (k := 0) (by omega) 5
  refine ⟨h2, ?_, H2, (M.kept (fun q q1 q2 => f1 q (by omega))).kept (fun q q1 q2 => f2 q (by omega)), S1.tr H2 f2⟩
  unfold FX5_takeOfMark
  rw [tr_zo H, zsn]
  simp only [zJn]
  rw [tr_g0 H, zsn, ht, q4, if_pos (show iZ 4 = iZ 4 from rfl), digitOf_eq c1 c2, zsn, e1, zsn]
  (first | rw [q5, e2, zsn] | rw [e2, zsn])
theorem tk4 (S : St T hz h b n tx d cnt nxt dd fl ds fs) (H : TrAt h (b + 3) t) (M : ShAt T h (b + 21) e)  {c : Int} (c1 : 0 ≤ c) (c2 : c ≤ 255) (ht : t 0 = 4) : ∃ h', FX5_take T (b + 3) (b + 21) (iZ c) h = some h' ∧ TrAt h' (b + 3) (upZ (upZ t 1 (dg c)) 0 5) ∧ ShAt T h' (b + 21) (e) ∧ St T hz h' b n tx d cnt nxt dd fl ds fs := by
  have hd := dg_in (c := c)
  obtain ⟨h1, e1, H1, M1, S1⟩ := mk4 S H M c1 c2 ht
  refine ⟨h1, ?_, H1, M1, S1⟩
  · unfold FX5_take
    rw [tr_zo H, zsn]
    simp only [zJn]
    rw [digitOf_eq c1 c2, zsn, tr_g0 H, zsn, ht, q0, q1, if_neg (show ¬ iZ 4 = iZ 0 by decide), if_neg (show ¬ iZ 4 = iZ 1 by decide), q2, if_neg (show ¬ iZ 4 = iZ 2 by decide), q3, if_neg (show ¬ iZ 4 = iZ 3 by decide), q4, if_pos (show iZ 4 = iZ 4 from rfl), e1, zsn]
theorem mk5 (S : St T hz h b n tx d cnt nxt dd fl ds fs) (H : TrAt h (b + 3) t) (M : ShAt T h (b + 21) e) {c : Int} (c1 : 0 ≤ c) (c2 : c ≤ 255) (ht : t 0 = 5) : ∃ h', FX5_takeOfMark T (b + 3) (b + 21) (iZ c) h = some h' ∧ TrAt h' (b + 3) (upZ (upZ t 2 (dg c)) 0 6) ∧ ShAt T h' (b + 21) e ∧ St T hz h' b n tx d cnt nxt dd fl ds fs := by
  obtain ⟨h1, e1, H1, f1⟩ := tr_set H (k := 2) (by omega) (dg c)
  have S1 := S.tr H1 f1
  obtain ⟨h2, e2, H2, f2⟩ := tr_set H1 (k := 0) (by omega) 6
  refine ⟨h2, ?_, H2, (M.kept (fun q q1 q2 => f1 q (by omega))).kept (fun q q1 q2 => f2 q (by omega)), S1.tr H2 f2⟩
  unfold FX5_takeOfMark
  rw [tr_zo H, zsn]
  simp only [zJn]
  rw [tr_g0 H, zsn, ht, q4, if_neg (show ¬ iZ 5 = iZ 4 by decide), q5, if_pos (show iZ 5 = iZ 5 from rfl), digitOf_eq c1 c2, zsn, e1, zsn]
  (first | rw [q6, e2, zsn] | rw [e2, zsn])
theorem tk5 (S : St T hz h b n tx d cnt nxt dd fl ds fs) (H : TrAt h (b + 3) t) (M : ShAt T h (b + 21) e)  {c : Int} (c1 : 0 ≤ c) (c2 : c ≤ 255) (ht : t 0 = 5) : ∃ h', FX5_take T (b + 3) (b + 21) (iZ c) h = some h' ∧ TrAt h' (b + 3) (upZ (upZ t 2 (dg c)) 0 6) ∧ ShAt T h' (b + 21) (e) ∧ St T hz h' b n tx d cnt nxt dd fl ds fs := by
  have hd := dg_in (c := c)
  obtain ⟨h1, e1, H1, M1, S1⟩ := mk5 S H M c1 c2 ht
  refine ⟨h1, ?_, H1, M1, S1⟩
  · unfold FX5_take
    rw [tr_zo H, zsn]
    simp only [zJn]
    rw [digitOf_eq c1 c2, zsn, tr_g0 H, zsn, ht, q0, q1, if_neg (show ¬ iZ 5 = iZ 0 by decide), if_neg (show ¬ iZ 5 = iZ 1 by decide), q2, if_neg (show ¬ iZ 5 = iZ 2 by decide), q3, if_neg (show ¬ iZ 5 = iZ 3 by decide), q4, if_neg (show ¬ iZ 5 = iZ 4 by decide), q5, if_pos (show iZ 5 = iZ 5 from rfl), e1, zsn]
theorem mk6 (S : St T hz h b n tx d cnt nxt dd fl ds fs) (H : TrAt h (b + 3) t) (M : ShAt T h (b + 21) e) {c : Int} (c1 : 0 ≤ c) (c2 : c ≤ 255) (ht : t 0 = 6) : ∃ h', FX5_takeOfMark T (b + 3) (b + 21) (iZ c) h = some h' ∧ TrAt h' (b + 3) (upZ (upZ t 3 (if c = 45 then 26 else c - 97)) 0 7) ∧ ShAt T h' (b + 21) e ∧ St T hz h' b n tx d cnt nxt dd fl ds fs := by
  obtain ⟨h1, e1, H1, f1⟩ := tr_set H (k := 3) (by omega) (if c = 45 then 26 else c - 97)
  have S1 := S.tr H1 f1
  obtain ⟨h2, e2, H2, f2⟩ := tr_set H1 (k := 0) (by omega) 7
  refine ⟨h2, ?_, H2, (M.kept (fun q q1 q2 => f1 q (by omega))).kept (fun q q1 q2 => f2 q (by omega)), S1.tr H2 f2⟩
  unfold FX5_takeOfMark
  rw [tr_zo H, zsn]
  simp only [zJn]
  rw [tr_g0 H, zsn, ht, q4, if_neg (show ¬ iZ 6 = iZ 4 by decide), q5, if_neg (show ¬ iZ 6 = iZ 5 by decide), q6, if_pos (show iZ 6 = iZ 6 from rfl), r45, r97]
  by_cases g : c = 45
  · rw [if_pos g] at e1
    rw [if_pos (by rw [iZ_eq (by omega) (by omega) (by omega) (by omega)]; omega), q26, e1, zsn]
    (first | rw [q7, e2, zsn] | rw [e2, zsn])
  · rw [if_neg g] at e1
    rw [if_neg (by rw [iZ_eq (by omega) (by omega) (by omega) (by omega)]; omega), iZ_sub, e1, zsn]
    (first | rw [q7, e2, zsn] | rw [e2, zsn])
theorem tk6 (S : St T hz h b n tx d cnt nxt dd fl ds fs) (H : TrAt h (b + 3) t) (M : ShAt T h (b + 21) e)  {c : Int} (c1 : 0 ≤ c) (c2 : c ≤ 255) (ht : t 0 = 6) : ∃ h', FX5_take T (b + 3) (b + 21) (iZ c) h = some h' ∧ TrAt h' (b + 3) (upZ (upZ t 3 (if c = 45 then 26 else c - 97)) 0 7) ∧ ShAt T h' (b + 21) (e) ∧ St T hz h' b n tx d cnt nxt dd fl ds fs := by
  have hd := dg_in (c := c)
  obtain ⟨h1, e1, H1, M1, S1⟩ := mk6 S H M c1 c2 ht
  refine ⟨h1, ?_, H1, M1, S1⟩
  · unfold FX5_take
    rw [tr_zo H, zsn]
    simp only [zJn]
    rw [digitOf_eq c1 c2, zsn, tr_g0 H, zsn, ht, q0, q1, if_neg (show ¬ iZ 6 = iZ 0 by decide), if_neg (show ¬ iZ 6 = iZ 1 by decide), q2, if_neg (show ¬ iZ 6 = iZ 2 by decide), q3, if_neg (show ¬ iZ 6 = iZ 3 by decide), q4, if_neg (show ¬ iZ 6 = iZ 4 by decide), q5, if_neg (show ¬ iZ 6 = iZ 5 by decide), q6, if_pos (show iZ 6 = iZ 6 from rfl), e1, zsn]
theorem mk7 (S : St T hz h b n tx d cnt nxt dd fl ds fs) (H : TrAt h (b + 3) t) (M : ShAt T h (b + 21) e) {c : Int} (c1 : 0 ≤ c) (c2 : c ≤ 255) (ht : t 0 = 7) : ∃ h', FX5_takeOfMark T (b + 3) (b + 21) (iZ c) h = some h' ∧ TrAt h' (b + 3) (upZ (upZ t 5 (dg c)) 0 8) ∧ ShAt T h' (b + 21) e ∧ St T hz h' b n tx d cnt nxt dd fl ds fs := by
  obtain ⟨h1, e1, H1, f1⟩ := tr_set H (k := 5) (by omega) (dg c)
  have S1 := S.tr H1 f1
  obtain ⟨h2, e2, H2, f2⟩ := tr_set H1 (k := 0) (by omega) 8
  refine ⟨h2, ?_, H2, (M.kept (fun q q1 q2 => f1 q (by omega))).kept (fun q q1 q2 => f2 q (by omega)), S1.tr H2 f2⟩
  unfold FX5_takeOfMark
  rw [tr_zo H, zsn]
  simp only [zJn]
  rw [tr_g0 H, zsn, ht, q4, if_neg (show ¬ iZ 7 = iZ 4 by decide), q5, if_neg (show ¬ iZ 7 = iZ 5 by decide), q6, if_neg (show ¬ iZ 7 = iZ 6 by decide), q7, if_pos (show iZ 7 = iZ 7 from rfl), digitOf_eq c1 c2, zsn, e1, zsn]
  (first | rw [q8, e2, zsn] | rw [e2, zsn])
theorem tk7 (S : St T hz h b n tx d cnt nxt dd fl ds fs) (H : TrAt h (b + 3) t) (M : ShAt T h (b + 21) e)  {c : Int} (c1 : 0 ≤ c) (c2 : c ≤ 255) (ht : t 0 = 7) : ∃ h', FX5_take T (b + 3) (b + 21) (iZ c) h = some h' ∧ TrAt h' (b + 3) (upZ (upZ t 5 (dg c)) 0 8) ∧ ShAt T h' (b + 21) (e) ∧ St T hz h' b n tx d cnt nxt dd fl ds fs := by
  have hd := dg_in (c := c)
  obtain ⟨h1, e1, H1, M1, S1⟩ := mk7 S H M c1 c2 ht
  refine ⟨h1, ?_, H1, M1, S1⟩
  · unfold FX5_take
    rw [tr_zo H, zsn]
    simp only [zJn]
    rw [digitOf_eq c1 c2, zsn, tr_g0 H, zsn, ht, q0, q1, if_neg (show ¬ iZ 7 = iZ 0 by decide), if_neg (show ¬ iZ 7 = iZ 1 by decide), q2, if_neg (show ¬ iZ 7 = iZ 2 by decide), q3, if_neg (show ¬ iZ 7 = iZ 3 by decide), q4, if_neg (show ¬ iZ 7 = iZ 4 by decide), q5, if_neg (show ¬ iZ 7 = iZ 5 by decide), q6, if_neg (show ¬ iZ 7 = iZ 6 by decide), q7, if_pos (show iZ 7 = iZ 7 from rfl), e1, zsn]
theorem mk8 (S : St T hz h b n tx d cnt nxt dd fl ds fs) (H : TrAt h (b + 3) t) (M : ShAt T h (b + 21) e) (hO : OkD e) (g : inG e (t 1) (t 2)) (gr : cn e (t 1) (t 2) < 2) {c : Int} (c1 : 0 ≤ c) (c2 : c ≤ 255) (ht : t 0 = 8) : ∃ h', FX5_takeOfMark T (b + 3) (b + 21) (iZ c) h = some h' ∧ TrAt h' (b + 3) (upZ t 0 3) ∧ ShAt T h' (b + 21) (dadd e (t 1) (t 2) (t 3) (t 5) (dg c)) ∧ St T hz h' b n tx d cnt nxt dd fl ds fs := by
  obtain ⟨h1, e1, M1, f1⟩ := addMark_eq (s := t 3) (k := t 5) (w := dg c) M hO g gr
  have S1 := S.trial M1 f1
  have H1 : TrAt h1 (b + 3) t := (f1 _ (by omega)).trans H
  obtain ⟨h2, e2, H2, f2⟩ := tr_set H1 (k := 0) (by omega) 3
  refine ⟨h2, ?_, H2, M1.kept (fun q q1 q2 => f2 q (by omega)), S1.tr H2 f2⟩
  unfold FX5_takeOfMark
  rw [tr_zo H, zsn]
  simp only [zJn]
  rw [tr_g0 H, zsn, ht, q4, if_neg (show ¬ iZ 8 = iZ 4 by decide), q5, if_neg (show ¬ iZ 8 = iZ 5 by decide), q6, if_neg (show ¬ iZ 8 = iZ 6 by decide), q7, if_neg (show ¬ iZ 8 = iZ 7 by decide), tr_g1 H, zsn, tr_g2 H, zsn, tr_g3 H, zsn, tr_g5 H, zsn, digitOf_eq c1 c2, zsn, e1, zsn, q3, e2, zsn]
theorem tk8 (S : St T hz h b n tx d cnt nxt dd fl ds fs) (H : TrAt h (b + 3) t) (M : ShAt T h (b + 21) e) (hO : OkD e) (g : inG e (t 1) (t 2)) (gr : cn e (t 1) (t 2) < 2) {c : Int} (c1 : 0 ≤ c) (c2 : c ≤ 255) (ht : t 0 = 8) : ∃ h', FX5_take T (b + 3) (b + 21) (iZ c) h = some h' ∧ TrAt h' (b + 3) (upZ t 0 3) ∧ ShAt T h' (b + 21) (dadd e (t 1) (t 2) (t 3) (t 5) (dg c)) ∧ St T hz h' b n tx d cnt nxt dd fl ds fs := by
  have hd := dg_in (c := c)
  obtain ⟨h1, e1, H1, M1, S1⟩ := mk8 S H M hO g gr c1 c2 ht
  refine ⟨h1, ?_, H1, M1, S1⟩
  · unfold FX5_take
    rw [tr_zo H, zsn]
    simp only [zJn]
    rw [digitOf_eq c1 c2, zsn, tr_g0 H, zsn, ht, q0, q1, if_neg (show ¬ iZ 8 = iZ 0 by decide), if_neg (show ¬ iZ 8 = iZ 1 by decide), q2, if_neg (show ¬ iZ 8 = iZ 2 by decide), q3, if_neg (show ¬ iZ 8 = iZ 3 by decide), q4, if_neg (show ¬ iZ 8 = iZ 4 by decide), q5, if_neg (show ¬ iZ 8 = iZ 5 by decide), q6, if_neg (show ¬ iZ 8 = iZ 6 by decide), q7, if_neg (show ¬ iZ 8 = iZ 7 by decide), q8, if_pos (show iZ 8 = iZ 8 from rfl), e1, zsn]
theorem lt11 {c : Int} (S : St T hz h b n tx d cnt nxt dd fl ds fs) (H : TrAt h (b + 3) t) (M : ShAt T h (b + 21) e) (ht : t 0 = 11) : ∃ h', FX5_takeOfLetter T (b + 3) (b + 21) (iZ (dg c)) h = some h' ∧ TrAt h' (b + 3) (upZ (upZ t 4 (dg c)) 0 12) ∧ ShAt T h' (b + 21) e ∧ St T hz h' b n tx d cnt nxt dd fl ds fs := by
  obtain ⟨h1, e1, H1, f1⟩ := tr_set H (k := 4) (by omega) (dg c)
  have S1 := S.tr H1 f1
  obtain ⟨h2, e2, H2, f2⟩ := tr_set H1 (k := 0) (by omega) 12
  refine ⟨h2, ?_, H2, (M.kept (fun q q1 q2 => f1 q (by omega))).kept (fun q q1 q2 => f2 q (by omega)), S1.tr H2 f2⟩
  unfold FX5_takeOfLetter
  rw [tr_zo H, zsn]
  simp only [zJn]
  rw [tr_g0 H, zsn, ht, r11, if_pos (show iZ 11 = iZ 11 from rfl), e1, zsn]
  (first | rw [r12, e2, zsn] | rw [e2, zsn])
theorem tk11 (S : St T hz h b n tx d cnt nxt dd fl ds fs) (H : TrAt h (b + 3) t) (M : ShAt T h (b + 21) e)  {c : Int} (c1 : 0 ≤ c) (c2 : c ≤ 255) (ht : t 0 = 11) : ∃ h', FX5_take T (b + 3) (b + 21) (iZ c) h = some h' ∧ TrAt h' (b + 3) (upZ (upZ t 4 (dg c)) 0 12) ∧ ShAt T h' (b + 21) (e) ∧ St T hz h' b n tx d cnt nxt dd fl ds fs := by
  have hd := dg_in (c := c)
  obtain ⟨h1, e1, H1, M1, S1⟩ := lt11 (c := c) S H M ht
  refine ⟨h1, ?_, H1, M1, S1⟩
  · unfold FX5_take
    rw [tr_zo H, zsn]
    simp only [zJn]
    rw [digitOf_eq c1 c2, zsn, tr_g0 H, zsn, ht, q0, q1, if_neg (show ¬ iZ 11 = iZ 0 by decide), if_neg (show ¬ iZ 11 = iZ 1 by decide), q2, if_neg (show ¬ iZ 11 = iZ 2 by decide), q3, if_neg (show ¬ iZ 11 = iZ 3 by decide), q4, if_neg (show ¬ iZ 11 = iZ 4 by decide), q5, if_neg (show ¬ iZ 11 = iZ 5 by decide), q6, if_neg (show ¬ iZ 11 = iZ 6 by decide), q7, if_neg (show ¬ iZ 11 = iZ 7 by decide), q8, if_neg (show ¬ iZ 11 = iZ 8 by decide), q9, if_neg (show ¬ iZ 11 = iZ 9 by decide), q10, if_neg (show ¬ iZ 11 = iZ 10 by decide), e1, zsn]
theorem lt12 {c : Int} (S : St T hz h b n tx d cnt nxt dd fl ds fs) (H : TrAt h (b + 3) t) (M : ShAt T h (b + 21) e) (ht : t 0 = 12) : ∃ h', FX5_takeOfLetter T (b + 3) (b + 21) (iZ (dg c)) h = some h' ∧ TrAt h' (b + 3) (upZ (upZ t 5 (dg c)) 0 13) ∧ ShAt T h' (b + 21) e ∧ St T hz h' b n tx d cnt nxt dd fl ds fs := by
  obtain ⟨h1, e1, H1, f1⟩ := tr_set H (k := 5) (by omega) (dg c)
  have S1 := S.tr H1 f1
  obtain ⟨h2, e2, H2, f2⟩ := tr_set H1 (k := 0) (by omega) 13
  refine ⟨h2, ?_, H2, (M.kept (fun q q1 q2 => f1 q (by omega))).kept (fun q q1 q2 => f2 q (by omega)), S1.tr H2 f2⟩
  unfold FX5_takeOfLetter
  rw [tr_zo H, zsn]
  simp only [zJn]
  rw [tr_g0 H, zsn, ht, r11, if_neg (show ¬ iZ 12 = iZ 11 by decide), r12, if_pos (show iZ 12 = iZ 12 from rfl), e1, zsn]
  (first | rw [r13, e2, zsn] | rw [e2, zsn])
theorem tk12 (S : St T hz h b n tx d cnt nxt dd fl ds fs) (H : TrAt h (b + 3) t) (M : ShAt T h (b + 21) e)  {c : Int} (c1 : 0 ≤ c) (c2 : c ≤ 255) (ht : t 0 = 12) : ∃ h', FX5_take T (b + 3) (b + 21) (iZ c) h = some h' ∧ TrAt h' (b + 3) (upZ (upZ t 5 (dg c)) 0 13) ∧ ShAt T h' (b + 21) (e) ∧ St T hz h' b n tx d cnt nxt dd fl ds fs := by
  have hd := dg_in (c := c)
  obtain ⟨h1, e1, H1, M1, S1⟩ := lt12 (c := c) S H M ht
  refine ⟨h1, ?_, H1, M1, S1⟩
  · unfold FX5_take
    rw [tr_zo H, zsn]
    simp only [zJn]
    rw [digitOf_eq c1 c2, zsn, tr_g0 H, zsn, ht, q0, q1, if_neg (show ¬ iZ 12 = iZ 0 by decide), if_neg (show ¬ iZ 12 = iZ 1 by decide), q2, if_neg (show ¬ iZ 12 = iZ 2 by decide), q3, if_neg (show ¬ iZ 12 = iZ 3 by decide), q4, if_neg (show ¬ iZ 12 = iZ 4 by decide), q5, if_neg (show ¬ iZ 12 = iZ 5 by decide), q6, if_neg (show ¬ iZ 12 = iZ 6 by decide), q7, if_neg (show ¬ iZ 12 = iZ 7 by decide), q8, if_neg (show ¬ iZ 12 = iZ 8 by decide), q9, if_neg (show ¬ iZ 12 = iZ 9 by decide), q10, if_neg (show ¬ iZ 12 = iZ 10 by decide), e1, zsn]
theorem lt13 {c : Int} (S : St T hz h b n tx d cnt nxt dd fl ds fs) (H : TrAt h (b + 3) t) (M : ShAt T h (b + 21) e) (ht : t 0 = 13) : ∃ h', FX5_takeOfLetter T (b + 3) (b + 21) (iZ (dg c)) h = some h' ∧ TrAt h' (b + 3) (upZ (upZ t 6 (dg c)) 0 14) ∧ ShAt T h' (b + 21) e ∧ St T hz h' b n tx d cnt nxt dd fl ds fs := by
  obtain ⟨h1, e1, H1, f1⟩ := tr_set H (k := 6) (by omega) (dg c)
  have S1 := S.tr H1 f1
  obtain ⟨h2, e2, H2, f2⟩ := tr_set H1 (k := 0) (by omega) 14
  refine ⟨h2, ?_, H2, (M.kept (fun q q1 q2 => f1 q (by omega))).kept (fun q q1 q2 => f2 q (by omega)), S1.tr H2 f2⟩
  unfold FX5_takeOfLetter
  rw [tr_zo H, zsn]
  simp only [zJn]
  rw [tr_g0 H, zsn, ht, r11, if_neg (show ¬ iZ 13 = iZ 11 by decide), r12, if_neg (show ¬ iZ 13 = iZ 12 by decide), r13, if_pos (show iZ 13 = iZ 13 from rfl), e1, zsn]
  (first | rw [q14, e2, zsn] | rw [e2, zsn])
theorem tk13 (S : St T hz h b n tx d cnt nxt dd fl ds fs) (H : TrAt h (b + 3) t) (M : ShAt T h (b + 21) e)  {c : Int} (c1 : 0 ≤ c) (c2 : c ≤ 255) (ht : t 0 = 13) : ∃ h', FX5_take T (b + 3) (b + 21) (iZ c) h = some h' ∧ TrAt h' (b + 3) (upZ (upZ t 6 (dg c)) 0 14) ∧ ShAt T h' (b + 21) (e) ∧ St T hz h' b n tx d cnt nxt dd fl ds fs := by
  have hd := dg_in (c := c)
  obtain ⟨h1, e1, H1, M1, S1⟩ := lt13 (c := c) S H M ht
  refine ⟨h1, ?_, H1, M1, S1⟩
  · unfold FX5_take
    rw [tr_zo H, zsn]
    simp only [zJn]
    rw [digitOf_eq c1 c2, zsn, tr_g0 H, zsn, ht, q0, q1, if_neg (show ¬ iZ 13 = iZ 0 by decide), if_neg (show ¬ iZ 13 = iZ 1 by decide), q2, if_neg (show ¬ iZ 13 = iZ 2 by decide), q3, if_neg (show ¬ iZ 13 = iZ 3 by decide), q4, if_neg (show ¬ iZ 13 = iZ 4 by decide), q5, if_neg (show ¬ iZ 13 = iZ 5 by decide), q6, if_neg (show ¬ iZ 13 = iZ 6 by decide), q7, if_neg (show ¬ iZ 13 = iZ 7 by decide), q8, if_neg (show ¬ iZ 13 = iZ 8 by decide), q9, if_neg (show ¬ iZ 13 = iZ 9 by decide), q10, if_neg (show ¬ iZ 13 = iZ 10 by decide), e1, zsn]
theorem lt14 {c : Int} (S : St T hz h b n tx d cnt nxt dd fl ds fs) (H : TrAt h (b + 3) t) (M : ShAt T h (b + 21) e) (l1 : 0 ≤ t 4) (l2 : t 4 < 2) (ht : t 0 = 14) : ∃ h', FX5_takeOfLetter T (b + 3) (b + 21) (iZ (dg c)) h = some h' ∧ TrAt h' (b + 3) (upZ t 0 3) ∧ ShAt T h' (b + 21) (dlet e (t 4).toNat (t 5) (t 6) (dg c)) ∧ St T hz h' b n tx d cnt nxt dd fl ds fs := by
  obtain ⟨h1, e1, M1, f1⟩ := putLetter_eq (u := t 5) (v := t 6) (w := dg c) M l1 l2
  have S1 := S.trial M1 f1
  have H1 : TrAt h1 (b + 3) t := (f1 _ (by omega)).trans H
  obtain ⟨h2, e2, H2, f2⟩ := tr_set H1 (k := 0) (by omega) 3
  refine ⟨h2, ?_, H2, M1.kept (fun q q1 q2 => f2 q (by omega)), S1.tr H2 f2⟩
  unfold FX5_takeOfLetter
  rw [tr_zo H, zsn]
  simp only [zJn]
  rw [tr_g0 H, zsn, ht, r11, if_neg (show ¬ iZ 14 = iZ 11 by decide), r12, if_neg (show ¬ iZ 14 = iZ 12 by decide), r13, if_neg (show ¬ iZ 14 = iZ 13 by decide), tr_g4 H, zsn, tr_g5 H, zsn, tr_g6 H, zsn, e1, zsn, q3, e2, zsn]
theorem tk14 (S : St T hz h b n tx d cnt nxt dd fl ds fs) (H : TrAt h (b + 3) t) (M : ShAt T h (b + 21) e) (l1 : 0 ≤ t 4) (l2 : t 4 < 2) {c : Int} (c1 : 0 ≤ c) (c2 : c ≤ 255) (ht : t 0 = 14) : ∃ h', FX5_take T (b + 3) (b + 21) (iZ c) h = some h' ∧ TrAt h' (b + 3) (upZ t 0 3) ∧ ShAt T h' (b + 21) (dlet e (t 4).toNat (t 5) (t 6) (dg c)) ∧ St T hz h' b n tx d cnt nxt dd fl ds fs := by
  have hd := dg_in (c := c)
  obtain ⟨h1, e1, H1, M1, S1⟩ := lt14 (c := c) S H M l1 l2 ht
  refine ⟨h1, ?_, H1, M1, S1⟩
  · unfold FX5_take
    rw [tr_zo H, zsn]
    simp only [zJn]
    rw [digitOf_eq c1 c2, zsn, tr_g0 H, zsn, ht, q0, q1, if_neg (show ¬ iZ 14 = iZ 0 by decide), if_neg (show ¬ iZ 14 = iZ 1 by decide), q2, if_neg (show ¬ iZ 14 = iZ 2 by decide), q3, if_neg (show ¬ iZ 14 = iZ 3 by decide), q4, if_neg (show ¬ iZ 14 = iZ 4 by decide), q5, if_neg (show ¬ iZ 14 = iZ 5 by decide), q6, if_neg (show ¬ iZ 14 = iZ 6 by decide), q7, if_neg (show ¬ iZ 14 = iZ 7 by decide), q8, if_neg (show ¬ iZ 14 = iZ 8 by decide), q9, if_neg (show ¬ iZ 14 = iZ 9 by decide), q10, if_neg (show ¬ iZ 14 = iZ 10 by decide), e1, zsn]
/-- the class's run from the character i on -/
def CR (T : zT) (a0 : Nat) (k : Nat) (i : Int) (h4 : zH) : Option (Int32 × zH) := LX6_readText_13 T a0 (fun (x20 : Int32) (h21 : zH) => some (x20, h21)) (fun (h22 : zH) => zJ (fun (x23 : Int32) => some (x23, h22)) (fun J24 => (zgr h22 a0 6 2).bind fun x25 => (FX5_mayEnd T x25 h22).bind fun x27 => if x27 = 0 then ((zgi h22 a0 6 1).bind fun x28 => J24 x28) else (J24 (-9 : Int32)))) k (iZ i) h4
theorem cr_form (a0 : Nat) : FX6_readText T a0 h = (zo h a0 6).bind fun _ => (zgr h a0 6 2).bind fun x1 => (zgr h a0 6 4).bind fun x2 => (FX5_begin T x1 x2 h).bind fun h4 => CR T a0 FUEL 0 h4 := rfl
theorem cr_stop (S : St T hz h b n tx d cnt nxt dd fl ds fs) (H : TrAt h (b + 3) t) (ht : t 0 ≠ 3) (tb : -99 ≤ t 0 ∧ t 0 ≤ 99) (n1 : 0 ≤ n) (n2 : n ≤ 120) (k : Nat) : CR T b (k + 1) n h = some (iZ n, h) := by
  unfold CR
  rw [LX6_readText_13.eq_2, cs_g1 S.cs0, zsn, if_pos (by exact Int32.le_refl _)]
  simp only [zJn]
  unfold FX5_mayEnd
  rw [cs_r2 S.cs0, zsn, tr_zo H, zsn]
  simp only [zJn]
  rw [tr_g0 H, zsn, q3, if_neg (by rw [iZ_eq (by omega) (by omega) (by omega) (by omega)]; exact ht), q0]
  (first | rw [if_pos (Or.inl rfl)] | rw [if_pos (Or.inl trivial)])
  rw [zsn, if_pos rfl, zsn]
theorem cr_done (S : St T hz h b n tx d cnt nxt dd fl ds fs) (H : TrAt h (b + 3) t) (ht : t 0 = 3) (n1 : 0 ≤ n) (n2 : n ≤ 120) (k : Nat) : CR T b (k + 1) n h = some (iZ (-9), h) := by
  unfold CR
  rw [LX6_readText_13.eq_2, cs_g1 S.cs0, zsn, if_pos (by exact Int32.le_refl _)]
  simp only [zJn]
  unfold FX5_mayEnd
  rw [cs_r2 S.cs0, zsn, tr_zo H, zsn]
  simp only [zJn]
  rw [tr_g0 H, zsn, ht, q3, if_pos rfl, q1]
  (first | rw [if_pos (Or.inr rfl)] | rw [if_pos (Or.inr trivial)])
  rw [zsn, q0, if_neg (show ¬ iZ 1 = iZ 0 by decide), qm9]
theorem cr_no (S : St T hz h b n tx d cnt nxt dd fl ds fs) {i : Int} (i1 : 0 ≤ i) (i2 : i < n) (n2 : n ≤ 120) (al : FX5_allows T (b + 3) (b + 21) (iZ (tx i.toNat)) h = some (iZ 0)) (k : Nat) : CR T b (k + 1) i h = some (iZ i, h) := by
  have ea : FX1_at T (b + 1) (iZ i) h = some (iZ (tx i.toNat)) := at_in S.tx0 (by omega) i1 (by omega)
  unfold CR
  rw [LX6_readText_13.eq_2, cs_g1 S.cs0, zsn, if_neg (by rw [iZ_le (by omega) (by omega) (by omega) (by omega)]; omega), cs_r0 S.cs0, zsn, ea, zsn, cs_r2 S.cs0, zsn, cs_r4 S.cs0, zsn, al, zsn, q0, if_pos rfl]
theorem cr_go (S : St T hz h b n tx d cnt nxt dd fl ds fs) {i : Int} (i1 : 0 ≤ i) (i2 : i < n) (n2 : n ≤ 120) (al : FX5_allows T (b + 3) (b + 21) (iZ (tx i.toNat)) h = some (iZ 1)) (tk : FX5_take T (b + 3) (b + 21) (iZ (tx i.toNat)) h = some h') (k : Nat) : CR T b (k + 1) i h = CR T b k (i + 1) h' := by
  have ea : FX1_at T (b + 1) (iZ i) h = some (iZ (tx i.toNat)) := at_in S.tx0 (by omega) i1 (by omega)
  unfold CR
  rw [LX6_readText_13.eq_2, cs_g1 S.cs0, zsn, if_neg (by rw [iZ_le (by omega) (by omega) (by omega) (by omega)]; omega), cs_r0 S.cs0, zsn, ea, zsn, cs_r2 S.cs0, zsn, cs_r4 S.cs0, zsn, al, zsn, if_neg (show ¬ iZ 1 = 0 by decide), zsn, zsn, tk, zsn, q1, iZ_add]
end Tk5
