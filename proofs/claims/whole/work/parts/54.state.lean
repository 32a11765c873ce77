/-! the whole state: the class's side, the reference's side, what is only worked with -/
def TrAt (h : zH) (R : Nat) (t : Nat → Int) : Prop := h R = some (.inr (5, [.int (iZ (t 0)), .int (iZ (t 1)), .int (iZ (t 2)), .int (iZ (t 3)), .int (iZ (t 4)), .int (iZ (t 5)), .int (iZ (t 6))]))
def BAr (T : zT) (h : zH) (a n : Nat) (f : Nat → Int) : Prop := h a = some (.inl (T.2.2.1, n, .inl (fun j => iZ (f j))))
def OutV (T : zT) (h : zH) (o : Nat) (x : Int64) : Prop := ∃ f, h o = some (.inl (T.2.1, 1, .inr (.inl f))) ∧ f 0 = x
def CS (T : zT) (h : zH) (b : Nat) (n : Int) (tx : Nat → Int) (d : Nat → Nat → Int) (cnt nxt : Int) (dd : Nat → Nat → Nat → Int) (fl : Nat → Int) (ds : Nat → Nat → Nat → Int) (fs : Nat → Int) : Prop := CsAt h b n ∧ Num T h (b + 1) 120 tx ∧ ShAt T h (b + 4) d ∧ HsAt T h (b + 55) cnt nxt dd fl ∧ SfAt T h (b + 298) 2 ds fs
def MS (T : zT) (h : zH) (b : Nat) (v tx7 r D kp kb : Nat → Int) : Prop := MoAt h (b + 354) v ∧ Arr T h (b + 354 + 1) 120 tx7 ∧ Arr T h (b + 354 + 3) 739 r ∧ Arr T h (b + 354 + 6) 10346 D ∧ Arr T h (b + 354 + 7) 1478 kp ∧ BAr T h (b + 354 + 8) 2 kb
def SC1 (T : zT) (h : zH) (b : Nat) : Nat → Prop
  | 0 => ∃ t, TrAt h (b + 3) t
  | 1 => ∃ d, ShAt T h (b + 21) d
  | 2 => ∃ d, ShAt T h (b + 38) d
  | 3 => ∃ w, RdAt T h (b + 336) w ∧ RdIn w
  | 4 => ∃ w, RdAt T h (b + 343) w ∧ RdIn w
  | 5 => ∃ f, Num T h (b + 350) 8 f
  | 6 => ∃ f, Num T h (b + 352) 3 f
  | 7 => ∃ f, Arr T h (b + 354 + 2) 739 f
  | 8 => ∃ f, Arr T h (b + 354 + 4) 739 f
  | 9 => ∃ f, Arr T h (b + 354 + 5) 739 f
  | 10 => ∃ f, Arr T h (b + 354 + 9) 81 f
  | 11 => ∃ f, Arr T h (b + 354 + 10) 82 f
  | 12 => ∃ f, Arr T h (b + 354 + 11) 81 f
  | 13 => ∃ f, Arr T h (b + 354 + 12) 82 f
  | 14 => ∃ f, Arr T h (b + 354 + 13) 81 f
  | _ => True
def slo : Nat → Nat
  | 0 => 3
  | 1 => 21
  | 2 => 38
  | 3 => 336
  | 4 => 343
  | 5 => 350
  | 6 => 352
  | 7 => 356
  | 8 => 358
  | 9 => 359
  | 10 => 363
  | 11 => 364
  | 12 => 365
  | 13 => 366
  | _ => 367
def shi : Nat → Nat
  | 0 => 3
  | 1 => 37
  | 2 => 54
  | 3 => 342
  | 4 => 349
  | 5 => 351
  | 6 => 353
  | 7 => 356
  | 8 => 358
  | 9 => 359
  | 10 => 363
  | 11 => 364
  | 12 => 365
  | 13 => 366
  | _ => 367
def SC (T : zT) (h : zH) (b : Nat) : Prop := ∀ i, i < 15 → SC1 T h b i
def cA (b q : Nat) : Prop := (b ≤ q ∧ q ≤ b + 2) ∨ (b + 4 ≤ q ∧ q ≤ b + 20) ∨ (b + 55 ≤ q ∧ q ≤ b + 335)
def mA (b q : Nat) : Prop := (b + 354 ≤ q ∧ q ≤ b + 355) ∨ q = b + 357 ∨ (b + 360 ≤ q ∧ q ≤ b + 362)
section Fr
variable {T : zT} {h h' : zH} {b o : Nat} {n : Int} {tx : Nat → Int} {d : Nat → Nat → Int} {cnt nxt : Int} {dd : Nat → Nat → Nat → Int} {fl : Nat → Int} {ds : Nat → Nat → Nat → Int} {fs v tx7 r D kp kb : Nat → Int} {x : Int64}
theorem hs_kept {H : Nat} (hH : HsAt T h H cnt nxt dd fl) (e : ∀ q, H ≤ q → q < H + 243 → h' q = h q) : HsAt T h' H cnt nxt dd fl := ⟨(e H (by omega) (by omega)).trans hH.1, hH.2.kept (fun q q1 q2 => e q (by omega) (by omega)) (by omega)⟩
theorem CS.kept (S : CS T h b n tx d cnt nxt dd fl ds fs) (f : ∀ q, cA b q → h' q = h q) : CS T h' b n tx d cnt nxt dd fl ds fs := by
  obtain ⟨a1, a2, a3, a4, a5⟩ := S
  unfold cA at f
  exact ⟨cs_kept a1 (f _ (by omega)), a2.kept (f _ (by omega)) (f _ (by omega)), a3.kept (fun q q1 q2 => f q (by omega)), hs_kept a4 (fun q q1 q2 => f q (by omega)), a5.kept (fun q q1 q2 => f q (by omega)) (by omega)⟩
theorem MS.kept (S : MS T h b v tx7 r D kp kb) (f : ∀ q, mA b q → h' q = h q) : MS T h' b v tx7 r D kp kb := by
  obtain ⟨a1, a2, a3, a4, a5, a6⟩ := S
  unfold mA at f
  exact ⟨mo_kept a1 (f _ (by omega)), a2.kept (f _ (by omega)), a3.kept (f _ (by omega)), a4.kept (f _ (by omega)), a5.kept (f _ (by omega)), (f _ (by omega)).trans a6⟩
theorem ov_kept (hA : OutV T h o x) (e : h' o = h o) : OutV T h' o x := by
  obtain ⟨f, hf, h0⟩ := hA
  exact ⟨f, e.trans hf, h0⟩
theorem SC1.kept {i : Nat} (hi : i < 15) (S : SC1 T h b i) (f : ∀ q, b + slo i ≤ q → q ≤ b + shi i → h' q = h q) : SC1 T h' b i := by
  rcases (show i = 0 ∨ i = 1 ∨ i = 2 ∨ i = 3 ∨ i = 4 ∨ i = 5 ∨ i = 6 ∨ i = 7 ∨ i = 8 ∨ i = 9 ∨ i = 10 ∨ i = 11 ∨ i = 12 ∨ i = 13 ∨ i = 14 by omega) with rfl | rfl | rfl | rfl | rfl | rfl | rfl | rfl | rfl | rfl | rfl | rfl | rfl | rfl | rfl
  · obtain ⟨t, ht⟩ := S; exact ⟨t, (f _ (by show b + 3 ≤ b + 3; omega) (by show b + 3 ≤ b + 3; omega)).trans ht⟩
  · obtain ⟨t, ht⟩ := S; exact ⟨t, ht.kept (fun q q1 q2 => f q (by show b + 21 ≤ q; omega) (by show q ≤ b + 37; omega))⟩
  · obtain ⟨t, ht⟩ := S; exact ⟨t, ht.kept (fun q q1 q2 => f q (by show b + 38 ≤ q; omega) (by show q ≤ b + 54; omega))⟩
  · obtain ⟨t, ht, hi⟩ := S; exact ⟨t, ht.kept (fun q q1 q2 => f q (by show b + 336 ≤ q; omega) (by show q ≤ b + 342; omega)), hi⟩
  · obtain ⟨t, ht, hi⟩ := S; exact ⟨t, ht.kept (fun q q1 q2 => f q (by show b + 343 ≤ q; omega) (by show q ≤ b + 349; omega)), hi⟩
  · obtain ⟨t, ht⟩ := S; exact ⟨t, ht.kept (f _ (by show b + 350 ≤ _; omega) (by show _ ≤ b + 351; omega)) (f _ (by show b + 350 ≤ _; omega) (by show _ ≤ b + 351; omega))⟩
  · obtain ⟨t, ht⟩ := S; exact ⟨t, ht.kept (f _ (by show b + 352 ≤ _; omega) (by show _ ≤ b + 353; omega)) (f _ (by show b + 352 ≤ _; omega) (by show _ ≤ b + 353; omega))⟩
  · obtain ⟨t, ht⟩ := S; exact ⟨t, ht.kept (f _ (by show b + 356 ≤ _; omega) (by show _ ≤ b + 356; omega))⟩
  · obtain ⟨t, ht⟩ := S; exact ⟨t, ht.kept (f _ (by show b + 358 ≤ _; omega) (by show _ ≤ b + 358; omega))⟩
  · obtain ⟨t, ht⟩ := S; exact ⟨t, ht.kept (f _ (by show b + 359 ≤ _; omega) (by show _ ≤ b + 359; omega))⟩
  · obtain ⟨t, ht⟩ := S; exact ⟨t, ht.kept (f _ (by show b + 363 ≤ _; omega) (by show _ ≤ b + 363; omega))⟩
  · obtain ⟨t, ht⟩ := S; exact ⟨t, ht.kept (f _ (by show b + 364 ≤ _; omega) (by show _ ≤ b + 364; omega))⟩
  · obtain ⟨t, ht⟩ := S; exact ⟨t, ht.kept (f _ (by show b + 365 ≤ _; omega) (by show _ ≤ b + 365; omega))⟩
  · obtain ⟨t, ht⟩ := S; exact ⟨t, ht.kept (f _ (by show b + 366 ≤ _; omega) (by show _ ≤ b + 366; omega))⟩
  · obtain ⟨t, ht⟩ := S; exact ⟨t, ht.kept (f _ (by show b + 367 ≤ _; omega) (by show _ ≤ b + 367; omega))⟩
theorem sl_in (i : Nat) : slo i ≤ shi i := by
  unfold slo shi
  split <;> omega
theorem sl_sep {i j : Nat} (hi : i < j) (hj : j < 15) : shi i < slo j := by
  have h1 : ∀ k : Nat, k < 14 → shi k < slo (k + 1) := by decide
  have key : ∀ m : Nat, i + 1 + m < 15 → shi i < slo (i + 1 + m) := by
    intro m
    induction m with
    | zero => intro h; exact h1 i (by omega)
    | succ m ih =>
      intro h
      have a := ih (by omega)
      have c := h1 (i + 1 + m) (by omega)
      have e := sl_in (i + 1 + m)
      rw [show i + 1 + (m + 1) = i + 1 + m + 1 from by omega]
      omega
  have := key (j - (i + 1)) (by omega)
  rw [show i + 1 + (j - (i + 1)) = j from by omega] at this
  exact this
theorem SC.upd (S : SC T h b) {i : Nat} (hi : i < 15) (new : SC1 T h' b i) (f : ∀ q, q < b + slo i ∨ b + shi i < q → h' q = h q) : SC T h' b := by
  intro j hj
  by_cases e : j = i
  · rw [e]; exact new
  · refine SC1.kept hj (S j hj) (fun q q1 q2 => f q ?_)
    by_cases c : j < i
    · have := sl_sep c hi; omega
    · have := sl_sep (show i < j by omega) hj; omega
/-- what is written lies outside of all that is only worked with -/
theorem SC.kept (S : SC T h b) (f : ∀ q, ¬ cA b q → ¬ mA b q → q ≤ b + 367 → h' q = h q) : SC T h' b := by
  intro j hj
  refine SC1.kept hj (S j hj) (fun q q1 q2 => f q ?_ ?_ ?_)
  · unfold cA
    rcases (show j = 0 ∨ j = 1 ∨ j = 2 ∨ (3 ≤ j ∧ j < 15) by omega) with rfl | rfl | rfl | c
    · rw [show slo 0 = 3 from rfl] at q1; rw [show shi 0 = 3 from rfl] at q2; omega
    · rw [show slo 1 = 21 from rfl] at q1; rw [show shi 1 = 37 from rfl] at q2; omega
    · rw [show slo 2 = 38 from rfl] at q1; rw [show shi 2 = 54 from rfl] at q2; omega
    · have g : ∀ k : Nat, k < 15 → 3 ≤ k → 336 ≤ slo k := by decide
      have := g j c.2 c.1
      omega
  · unfold mA
    have g : ∀ k : Nat, k < 15 → (shi k < 354 ∨ (slo k = 356 ∧ shi k = 356) ∨ (358 ≤ slo k ∧ shi k ≤ 359) ∨ 363 ≤ slo k) := by decide
    have := g j hj
    omega
  · have g : ∀ k : Nat, k < 15 → shi k ≤ 367 := by decide
    have := g j hj
    omega
def St (T : zT) (h : zH) (b o : Nat) (n : Int) (tx : Nat → Int) (d : Nat → Nat → Int) (cnt nxt : Int) (dd : Nat → Nat → Nat → Int) (fl : Nat → Int) (ds : Nat → Nat → Nat → Int) (fs v tx7 r D kp kb : Nat → Int) (x : Int64) : Prop := CS T h b n tx d cnt nxt dd fl ds fs ∧ MS T h b v tx7 r D kp kb ∧ SC T h b ∧ OutV T h o x ∧ b + 367 < o
theorem St.sc (S : St T h b o n tx d cnt nxt dd fl ds fs v tx7 r D kp kb x) {i : Nat} (hi : i < 15) (new : SC1 T h' b i) (f : ∀ q, q < b + slo i ∨ b + shi i < q → h' q = h q) : St T h' b o n tx d cnt nxt dd fl ds fs v tx7 r D kp kb x := by
  obtain ⟨s1, s2, s3, s4, s5⟩ := S
  have g : ∀ k : Nat, k < 15 → 3 ≤ slo k ∧ shi k ≤ 367 ∧ slo k ≤ shi k ∧ (shi k < 4 ∨ 21 ≤ slo k) ∧ (shi k < 55 ∨ 336 ≤ slo k) ∧ (shi k < 354 ∨ (slo k = 356 ∧ shi k = 356) ∨ (358 ≤ slo k ∧ shi k ≤ 359) ∨ 363 ≤ slo k) := by decide
  have gi := g i hi
  exact ⟨s1.kept (fun q hq => f q (by unfold cA at hq; omega)), s2.kept (fun q hq => f q (by unfold mA at hq; omega)), s3.upd hi new f, ov_kept s4 (f _ (by omega)), s5⟩
theorem St.mo (S : St T h b o n tx d cnt nxt dd fl ds fs v tx7 r D kp kb x) {v' : Nat → Int} (M : MoAt h' (b + 354) v') (f : ∀ q, q ≠ b + 354 → h' q = h q) : St T h' b o n tx d cnt nxt dd fl ds fs v' tx7 r D kp kb x := by
  obtain ⟨s1, s2, s3, s4, s5⟩ := S
  refine ⟨s1.kept (fun q hq => f q (by unfold cA at hq; omega)), ⟨M, s2.2.1.kept (f _ (by omega)), s2.2.2.1.kept (f _ (by omega)), s2.2.2.2.1.kept (f _ (by omega)), s2.2.2.2.2.1.kept (f _ (by omega)), (f _ (by omega)).trans s2.2.2.2.2.2⟩, s3.kept (fun q q1 q2 q3 => f q (by unfold cA at q1; unfold mA at q2; omega)), ov_kept s4 (f _ (by omega)), s5⟩
theorem St.st7 (S : St T h b o n tx d cnt nxt dd fl ds fs v tx7 r D kp kb x) {tx' : Nat → Int} (M : Arr T h' (b + 354 + 1) 120 tx') (f : ∀ q, q ≠ b + 354 + 1 → h' q = h q) : St T h' b o n tx d cnt nxt dd fl ds fs v tx' r D kp kb x := by
  obtain ⟨s1, s2, s3, s4, s5⟩ := S
  refine ⟨s1.kept (fun q hq => f q (by unfold cA at hq; omega)), ⟨mo_kept s2.1 (f _ (by omega)), M, s2.2.2.1.kept (f _ (by omega)), s2.2.2.2.1.kept (f _ (by omega)), s2.2.2.2.2.1.kept (f _ (by omega)), (f _ (by omega)).trans s2.2.2.2.2.2⟩, s3.kept (fun q q1 q2 q3 => f q (by unfold cA at q1; unfold mA at q2; omega)), ov_kept s4 (f _ (by omega)), s5⟩
theorem St.page (S : St T h b o n tx d cnt nxt dd fl ds fs v tx7 r D kp kb x) {r' : Nat → Int} (M : Arr T h' (b + 354 + 3) 739 r') (f : ∀ q, q ≠ b + 354 + 3 → h' q = h q) : St T h' b o n tx d cnt nxt dd fl ds fs v tx7 r' D kp kb x := by
  obtain ⟨s1, s2, s3, s4, s5⟩ := S
  refine ⟨s1.kept (fun q hq => f q (by unfold cA at hq; omega)), ⟨mo_kept s2.1 (f _ (by omega)), s2.2.1.kept (f _ (by omega)), M, s2.2.2.2.1.kept (f _ (by omega)), s2.2.2.2.2.1.kept (f _ (by omega)), (f _ (by omega)).trans s2.2.2.2.2.2⟩, s3.kept (fun q q1 q2 q3 => f q (by unfold cA at q1; unfold mA at q2; omega)), ov_kept s4 (f _ (by omega)), s5⟩
theorem St.skp (S : St T h b o n tx d cnt nxt dd fl ds fs v tx7 r D kp kb x) {kp' : Nat → Int} (M : Arr T h' (b + 354 + 7) 1478 kp') (f : ∀ q, q ≠ b + 354 + 7 → h' q = h q) : St T h' b o n tx d cnt nxt dd fl ds fs v tx7 r D kp' kb x := by
  obtain ⟨s1, s2, s3, s4, s5⟩ := S
  refine ⟨s1.kept (fun q hq => f q (by unfold cA at hq; omega)), ⟨mo_kept s2.1 (f _ (by omega)), s2.2.1.kept (f _ (by omega)), s2.2.2.1.kept (f _ (by omega)), s2.2.2.2.1.kept (f _ (by omega)), M, (f _ (by omega)).trans s2.2.2.2.2.2⟩, s3.kept (fun q q1 q2 q3 => f q (by unfold cA at q1; unfold mA at q2; omega)), ov_kept s4 (f _ (by omega)), s5⟩
theorem St.skb (S : St T h b o n tx d cnt nxt dd fl ds fs v tx7 r D kp kb x) {kb' : Nat → Int} (M : BAr T h' (b + 354 + 8) 2 kb') (f : ∀ q, q ≠ b + 354 + 8 → h' q = h q) : St T h' b o n tx d cnt nxt dd fl ds fs v tx7 r D kp kb' x := by
  obtain ⟨s1, s2, s3, s4, s5⟩ := S
  refine ⟨s1.kept (fun q hq => f q (by unfold cA at hq; omega)), ⟨mo_kept s2.1 (f _ (by omega)), s2.2.1.kept (f _ (by omega)), s2.2.2.1.kept (f _ (by omega)), s2.2.2.2.1.kept (f _ (by omega)), s2.2.2.2.2.1.kept (f _ (by omega)), M⟩, s3.kept (fun q q1 q2 q3 => f q (by unfold cA at q1; unfold mA at q2; omega)), ov_kept s4 (f _ (by omega)), s5⟩
theorem St.note (S : St T h b o n tx d cnt nxt dd fl ds fs v tx7 r D kp kb x) {v' D' : Nat → Int} (M : MoAt h' (b + 354) v') (A : Arr T h' (b + 354 + 6) 10346 D') (f : ∀ q, q ≠ b + 354 → q ≠ b + 354 + 6 → h' q = h q) : St T h' b o n tx d cnt nxt dd fl ds fs v' tx7 r D' kp kb x := by
  obtain ⟨s1, s2, s3, s4, s5⟩ := S
  refine ⟨s1.kept (fun q hq => f q (by unfold cA at hq; omega) (by unfold cA at hq; omega)), ⟨M, s2.2.1.kept (f _ (by omega) (by omega)), s2.2.2.1.kept (f _ (by omega) (by omega)), A, s2.2.2.2.2.1.kept (f _ (by omega) (by omega)), (f _ (by omega) (by omega)).trans s2.2.2.2.2.2⟩, s3.kept (fun q q1 q2 q3 => f q (by unfold mA at q2; omega) (by unfold mA at q2; omega)), ov_kept s4 (f _ (by omega) (by omega)), s5⟩
theorem St.cs (S : St T h b o n tx d cnt nxt dd fl ds fs v tx7 r D kp kb x) {n' : Int} (M : CsAt h' b n') (f : ∀ q, q ≠ b → h' q = h q) : St T h' b o n' tx d cnt nxt dd fl ds fs v tx7 r D kp kb x := by
  obtain ⟨s1, s2, s3, s4, s5⟩ := S
  refine ⟨⟨M, s1.2.1.kept (f _ (by omega)) (f _ (by omega)), s1.2.2.1.kept (fun q q1 q2 => f q (by omega)), hs_kept s1.2.2.2.1 (fun q q1 q2 => f q (by omega)), s1.2.2.2.2.kept (fun q q1 q2 => f q (by omega)) (by omega)⟩, s2.kept (fun q hq => f q (by unfold mA at hq; omega)), s3.kept (fun q q1 q2 q3 => f q (by unfold cA at q1; unfold mA at q2; omega)), ov_kept s4 (f _ (by omega)), s5⟩
theorem St.text (S : St T h b o n tx d cnt nxt dd fl ds fs v tx7 r D kp kb x) {tx' : Nat → Int} (M : Num T h' (b + 1) 120 tx') (f : ∀ q, q ≠ b + 1 + 1 → h' q = h q) : St T h' b o n tx' d cnt nxt dd fl ds fs v tx7 r D kp kb x := by
  obtain ⟨s1, s2, s3, s4, s5⟩ := S
  refine ⟨⟨cs_kept s1.1 (f _ (by omega)), M, s1.2.2.1.kept (fun q q1 q2 => f q (by omega)), hs_kept s1.2.2.2.1 (fun q q1 q2 => f q (by omega)), s1.2.2.2.2.kept (fun q q1 q2 => f q (by omega)) (by omega)⟩, s2.kept (fun q hq => f q (by unfold mA at hq; omega)), s3.kept (fun q q1 q2 q3 => f q (by unfold cA at q1; unfold mA at q2; omega)), ov_kept s4 (f _ (by omega)), s5⟩
theorem St.pres (S : St T h b o n tx d cnt nxt dd fl ds fs v tx7 r D kp kb x) {d' : Nat → Nat → Int} (M : ShAt T h' (b + 4) d') (f : offS (b + 4) h h') : St T h' b o n tx d' cnt nxt dd fl ds fs v tx7 r D kp kb x := by
  obtain ⟨s1, s2, s3, s4, s5⟩ := S
  refine ⟨⟨cs_kept s1.1 (f _ (by omega)), s1.2.1.kept (f _ (by omega)) (f _ (by omega)), M, hs_kept s1.2.2.2.1 (fun q q1 q2 => f q (by omega)), s1.2.2.2.2.kept (fun q q1 q2 => f q (by omega)) (by omega)⟩, s2.kept (fun q hq => f q (by unfold mA at hq; omega)), s3.kept (fun q q1 q2 q3 => f q (by unfold cA at q1; unfold mA at q2; omega)), ov_kept s4 (f _ (by omega)), s5⟩
theorem St.hist (S : St T h b o n tx d cnt nxt dd fl ds fs v tx7 r D kp kb x) {cnt' nxt' : Int} {dd' : Nat → Nat → Nat → Int} {fl' : Nat → Int} (M : HsAt T h' (b + 55) cnt' nxt' dd' fl') (f : offH (b + 55) h h') : St T h' b o n tx d cnt' nxt' dd' fl' ds fs v tx7 r D kp kb x := by
  obtain ⟨s1, s2, s3, s4, s5⟩ := S
  refine ⟨⟨cs_kept s1.1 (f _ (by omega)), s1.2.1.kept (f _ (by omega)) (f _ (by omega)), s1.2.2.1.kept (fun q q1 q2 => f q (by omega)), M, s1.2.2.2.2.kept (fun q q1 q2 => f q (by omega)) (by omega)⟩, s2.kept (fun q hq => f q (by unfold mA at hq; omega)), s3.kept (fun q q1 q2 q3 => f q (by unfold cA at q1; unfold mA at q2; omega)), ov_kept s4 (f _ (by omega)), s5⟩
theorem St.slots (S : St T h b o n tx d cnt nxt dd fl ds fs v tx7 r D kp kb x) {ds' : Nat → Nat → Nat → Int} {fs' : Nat → Int} (M : SfAt T h' (b + 298) 2 ds' fs') (f : offF (b + 298) 2 h h') : St T h' b o n tx d cnt nxt dd fl ds' fs' v tx7 r D kp kb x := by
  obtain ⟨s1, s2, s3, s4, s5⟩ := S
  refine ⟨⟨cs_kept s1.1 (f _ (by omega)), s1.2.1.kept (f _ (by omega)) (f _ (by omega)), s1.2.2.1.kept (fun q q1 q2 => f q (by omega)), hs_kept s1.2.2.2.1 (fun q q1 q2 => f q (by omega)), M⟩, s2.kept (fun q hq => f q (by unfold mA at hq; omega)), s3.kept (fun q q1 q2 q3 => f q (by unfold cA at q1; unfold mA at q2; omega)), ov_kept s4 (f _ (by omega)), s5⟩
theorem St.lay (S : St T h b o n tx d cnt nxt dd fl ds fs v tx7 r D kp kb x) {v' bg sg wo r7 : Nat → Int} {a : Nat} (H : WH T h' (b + 354) a r7 v' bg sg wo) (f : offW (b + 354) h h') : St T h' b o n tx d cnt nxt dd fl ds fs v' tx7 r D kp kb x := by
  obtain ⟨s1, s2, s3, s4, s5⟩ := S
  obtain ⟨w1, w2, w3, w4, -⟩ := H
  refine ⟨s1.kept (fun q hq => f q (by unfold cA at hq; omega) (by unfold cA at hq; omega) (by unfold cA at hq; omega) (by unfold cA at hq; omega)), ⟨w1, s2.2.1.kept (f _ (by omega) (by omega) (by omega) (by omega)), s2.2.2.1.kept (f _ (by omega) (by omega) (by omega) (by omega)), s2.2.2.2.1.kept (f _ (by omega) (by omega) (by omega) (by omega)), s2.2.2.2.2.1.kept (f _ (by omega) (by omega) (by omega) (by omega)), (f _ (by omega) (by omega) (by omega) (by omega)).trans s2.2.2.2.2.2⟩, ?_, ov_kept s4 (f _ (by omega) (by omega) (by omega) (by omega)), s5⟩
  intro j hj
  have g : ∀ k : Nat, k < 15 → (k = 10 ∨ k = 11 ∨ k = 12 ∨ shi k < 354 ∨ (355 ≤ slo k ∧ shi k ≤ 359) ∨ 366 ≤ slo k) := by decide
  by_cases j1 : j = 10
  · rw [j1]; exact ⟨_, w4⟩
  by_cases j2 : j = 11
  · rw [j2]; exact ⟨_, w2⟩
  by_cases j3 : j = 12
  · rw [j3]; exact ⟨_, w3⟩
  have gj := g j hj
  exact SC1.kept hj (s3 j hj) (fun q q1 q2 => f q (by omega) (by omega) (by omega) (by omega))
theorem St.out (S : St T h b o n tx d cnt nxt dd fl ds fs v tx7 r D kp kb x) {x' : Int64} (M : OutV T h' o x') (f : ∀ q, q ≠ o → h' q = h q) : St T h' b o n tx d cnt nxt dd fl ds fs v tx7 r D kp kb x' := by
  obtain ⟨s1, s2, s3, s4, s5⟩ := S
  exact ⟨s1.kept (fun q hq => f q (by unfold cA at hq; omega)), s2.kept (fun q hq => f q (by unfold mA at hq; omega)), s3.kept (fun q _ _ q3 => f q (by omega)), M, s5⟩
theorem out_put (hA : OutV T h o x) (y : Int64) : ∃ h', zls T h o 0 y = some h' ∧ OutV T h' o y ∧ ∀ q, q ≠ o → h' q = h q := by
  obtain ⟨f, hf, h0⟩ := hA
  refine ⟨va_up h o (some (.inl (T.2.1, 1, .inr (.inl (vp_updL f (0 : Int32).toNatClampNeg y))))), ?_, ⟨_, va_up_self _ _ _, if_pos rfl⟩, fun q hq => va_up_ne _ _ hq⟩
  unfold zls
  rw [hf]
  show (if T.2.1 = T.2.1 ∧ zin 0 1 then _ else _) = _
  rw [if_pos ⟨rfl, (iZ_in (a := 0) (by omega) (by omega)).mpr ⟨by omega, by omega⟩⟩]
theorem out_get (hA : OutV T h o x) : zli T h o 0 = some x := by
  obtain ⟨f, hf, h0⟩ := hA
  unfold zli
  rw [hf]
  show (if T.2.1 = T.2.1 ∧ zin 0 1 then some (f (0 : Int32).toNatClampNeg) else none) = _
  rw [if_pos ⟨rfl, (iZ_in (a := 0) (by omega) (by omega)).mpr ⟨by omega, by omega⟩⟩, ← h0]
  rfl
end Fr
