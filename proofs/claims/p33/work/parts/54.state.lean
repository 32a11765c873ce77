/-! the whole state of one object: what it holds, what is only worked with; outside of it nothing has changed since hz -/
def TrAt (h : zH) (R : Nat) (t : Nat → Int) : Prop := h R = some (.inr (5, [.int (iZ (t 0)), .int (iZ (t 1)), .int (iZ (t 2)), .int (iZ (t 3)), .int (iZ (t 4)), .int (iZ (t 5)), .int (iZ (t 6))]))
def CS (T : zT) (h : zH) (b : Nat) (n : Int) (tx : Nat → Int) (d : Nat → Nat → Int) (cnt nxt : Int) (dd : Nat → Nat → Nat → Int) (fl : Nat → Int) (ds : Nat → Nat → Nat → Int) (fs : Nat → Int) : Prop := CsAt h b n ∧ Num T h (b + 1) 120 tx ∧ ShAt T h (b + 4) d ∧ HsAt T h (b + 55) cnt nxt dd fl ∧ SfAt T h (b + 298) 2 ds fs
def SC1 (T : zT) (h : zH) (b : Nat) : Nat → Prop
  | 0 => ∃ t, TrAt h (b + 3) t
  | 1 => ∃ d, ShAt T h (b + 21) d
  | 2 => ∃ d, ShAt T h (b + 38) d
  | 3 => ∃ w, RdAt T h (b + 336) w ∧ RdIn w
  | 4 => ∃ w, RdAt T h (b + 343) w ∧ RdIn w
  | 5 => ∃ f, Num T h (b + 350) 8 f
  | 6 => ∃ f, Num T h (b + 352) 3 f
  | _ => True
def slo : Nat → Nat
  | 0 => 3
  | 1 => 21
  | 2 => 38
  | 3 => 336
  | 4 => 343
  | 5 => 350
  | _ => 352
def shi : Nat → Nat
  | 0 => 3
  | 1 => 37
  | 2 => 54
  | 3 => 342
  | 4 => 349
  | 5 => 351
  | _ => 353
def SC (T : zT) (h : zH) (b : Nat) : Prop := ∀ i, i < 7 → SC1 T h b i
def cA (b q : Nat) : Prop := (b ≤ q ∧ q ≤ b + 2) ∨ (b + 4 ≤ q ∧ q ≤ b + 20) ∨ (b + 55 ≤ q ∧ q ≤ b + 335)
def offO (b : Nat) (h h' : zH) : Prop := ∀ q, q < b ∨ b + 354 ≤ q → h' q = h q
def St (T : zT) (hz h : zH) (b : Nat) (n : Int) (tx : Nat → Int) (d : Nat → Nat → Int) (cnt nxt : Int) (dd : Nat → Nat → Nat → Int) (fl : Nat → Int) (ds : Nat → Nat → Nat → Int) (fs : Nat → Int) : Prop := CS T h b n tx d cnt nxt dd fl ds fs ∧ True ∧ SC T h b ∧ offO b hz h
section Fr
variable {T : zT} {hz h h' : zH} {b : Nat} {n : Int} {tx : Nat → Int} {d : Nat → Nat → Int} {cnt nxt : Int} {dd : Nat → Nat → Nat → Int} {fl : Nat → Int} {ds : Nat → Nat → Nat → Int} {fs : Nat → Int}
theorem hs_kept {H : Nat} (hH : HsAt T h H cnt nxt dd fl) (e : ∀ q, H ≤ q → q < H + 243 → h' q = h q) : HsAt T h' H cnt nxt dd fl := ⟨(e H (by omega) (by omega)).trans hH.1, hH.2.kept (fun q q1 q2 => e q (by omega) (by omega)) (by omega)⟩
theorem CS.kept (S : CS T h b n tx d cnt nxt dd fl ds fs) (f : ∀ q, cA b q → h' q = h q) : CS T h' b n tx d cnt nxt dd fl ds fs := by
  obtain ⟨a1, a2, a3, a4, a5⟩ := S
  unfold cA at f
  exact ⟨cs_kept a1 (f _ (by omega)), a2.kept (f _ (by omega)) (f _ (by omega)), a3.kept (fun q q1 q2 => f q (by omega)), hs_kept a4 (fun q q1 q2 => f q (by omega)), a5.kept (fun q q1 q2 => f q (by omega)) (by omega)⟩
theorem SC1.kept {i : Nat} (hi : i < 7) (S : SC1 T h b i) (f : ∀ q, b + slo i ≤ q → q ≤ b + shi i → h' q = h q) : SC1 T h' b i := by
  rcases (show i = 0 ∨ i = 1 ∨ i = 2 ∨ i = 3 ∨ i = 4 ∨ i = 5 ∨ i = 6 by omega) with rfl | rfl | rfl | rfl | rfl | rfl | rfl
  · obtain ⟨t, ht⟩ := S; exact ⟨t, (f _ (by show b + 3 ≤ b + 3; omega) (by show b + 3 ≤ b + 3; omega)).trans ht⟩
  · obtain ⟨t, ht⟩ := S; exact ⟨t, ht.kept (fun q q1 q2 => f q (by show b + 21 ≤ q; omega) (by show q ≤ b + 37; omega))⟩
  · obtain ⟨t, ht⟩ := S; exact ⟨t, ht.kept (fun q q1 q2 => f q (by show b + 38 ≤ q; omega) (by show q ≤ b + 54; omega))⟩
  · obtain ⟨t, ht, hi⟩ := S; exact ⟨t, ht.kept (fun q q1 q2 => f q (by show b + 336 ≤ q; omega) (by show q ≤ b + 342; omega)), hi⟩
  · obtain ⟨t, ht, hi⟩ := S; exact ⟨t, ht.kept (fun q q1 q2 => f q (by show b + 343 ≤ q; omega) (by show q ≤ b + 349; omega)), hi⟩
  · obtain ⟨t, ht⟩ := S; exact ⟨t, ht.kept (f _ (by show b + 350 ≤ _; omega) (by show _ ≤ b + 351; omega)) (f _ (by show b + 350 ≤ _; omega) (by show _ ≤ b + 351; omega))⟩
  · obtain ⟨t, ht⟩ := S; exact ⟨t, ht.kept (f _ (by show b + 352 ≤ _; omega) (by show _ ≤ b + 353; omega)) (f _ (by show b + 352 ≤ _; omega) (by show _ ≤ b + 353; omega))⟩
theorem sl_in (i : Nat) : slo i ≤ shi i := by
  unfold slo shi
  split <;> omega
theorem sl_sep {i j : Nat} (hi : i < j) (hj : j < 7) : shi i < slo j := by
  have h1 : ∀ k : Nat, k < 7 → ∀ m : Nat, m < k → shi m < slo k := by decide
  exact h1 j hj i hi
theorem SC.upd (S : SC T h b) {i : Nat} (hi : i < 7) (new : SC1 T h' b i) (f : ∀ q, q < b + slo i ∨ b + shi i < q → h' q = h q) : SC T h' b := by
  intro j hj
  by_cases e : j = i
  · rw [e]; exact new
  · refine SC1.kept hj (S j hj) (fun q q1 q2 => f q ?_)
    by_cases c : j < i
    · have := sl_sep c hi; omega
    · have := sl_sep (show i < j by omega) hj; omega
/-- what is written lies outside of all that is only worked with -/
theorem SC.kept (S : SC T h b) (f : ∀ q, ¬ cA b q → b ≤ q → q < b + 354 → h' q = h q) : SC T h' b := by
  intro j hj
  have g : ∀ k : Nat, k < 7 → 3 ≤ slo k ∧ shi k ≤ 353 ∧ slo k ≤ shi k ∧ (shi k < 4 ∨ 21 ≤ slo k) ∧ (shi k < 55 ∨ 336 ≤ slo k) := by decide
  have gj := g j hj
  refine SC1.kept hj (S j hj) (fun q q1 q2 => f q ?_ ?_ ?_)
  · unfold cA; omega
  · omega
  · omega
theorem offO.refl : offO b h h := fun _ _ => rfl
theorem St.sc (S : St T hz h b n tx d cnt nxt dd fl ds fs) {i : Nat} (hi : i < 7) (new : SC1 T h' b i) (f : ∀ q, q < b + slo i ∨ b + shi i < q → h' q = h q) : St T hz h' b n tx d cnt nxt dd fl ds fs := by
  obtain ⟨s1, -, s3, s4⟩ := S
  have g : ∀ k : Nat, k < 7 → 3 ≤ slo k ∧ shi k ≤ 353 ∧ slo k ≤ shi k ∧ (shi k < 4 ∨ 21 ≤ slo k) ∧ (shi k < 55 ∨ 336 ≤ slo k) := by decide
  have gi := g i hi
  exact ⟨s1.kept (fun q hq => f q (by unfold cA at hq; omega)), trivial, s3.upd hi new f, fun q hq => (f q (by omega)).trans (s4 q hq)⟩
theorem St.cs (S : St T hz h b n tx d cnt nxt dd fl ds fs) {n' : Int} (M : CsAt h' b n') (f : ∀ q, q ≠ b → h' q = h q) : St T hz h' b n' tx d cnt nxt dd fl ds fs := by
  obtain ⟨s1, -, s3, s4⟩ := S
  exact ⟨⟨M, s1.2.1.kept (f _ (by omega)) (f _ (by omega)), s1.2.2.1.kept (fun q q1 q2 => f q (by omega)), hs_kept s1.2.2.2.1 (fun q q1 q2 => f q (by omega)), s1.2.2.2.2.kept (fun q q1 q2 => f q (by omega)) (by omega)⟩, trivial, s3.kept (fun q q1 q2 q3 => f q (by unfold cA at q1; omega)), fun q hq => (f q (by omega)).trans (s4 q hq)⟩
theorem St.text (S : St T hz h b n tx d cnt nxt dd fl ds fs) {tx' : Nat → Int} (M : Num T h' (b + 1) 120 tx') (f : ∀ q, q ≠ b + 1 + 1 → h' q = h q) : St T hz h' b n tx' d cnt nxt dd fl ds fs := by
  obtain ⟨s1, -, s3, s4⟩ := S
  exact ⟨⟨cs_kept s1.1 (f _ (by omega)), M, s1.2.2.1.kept (fun q q1 q2 => f q (by omega)), hs_kept s1.2.2.2.1 (fun q q1 q2 => f q (by omega)), s1.2.2.2.2.kept (fun q q1 q2 => f q (by omega)) (by omega)⟩, trivial, s3.kept (fun q q1 q2 q3 => f q (by unfold cA at q1; omega)), fun q hq => (f q (by omega)).trans (s4 q hq)⟩
theorem St.pres (S : St T hz h b n tx d cnt nxt dd fl ds fs) {d' : Nat → Nat → Int} (M : ShAt T h' (b + 4) d') (f : offS (b + 4) h h') : St T hz h' b n tx d' cnt nxt dd fl ds fs := by
  obtain ⟨s1, -, s3, s4⟩ := S
  exact ⟨⟨cs_kept s1.1 (f _ (by omega)), s1.2.1.kept (f _ (by omega)) (f _ (by omega)), M, hs_kept s1.2.2.2.1 (fun q q1 q2 => f q (by omega)), s1.2.2.2.2.kept (fun q q1 q2 => f q (by omega)) (by omega)⟩, trivial, s3.kept (fun q q1 q2 q3 => f q (by unfold cA at q1; omega)), fun q hq => (f q (by omega)).trans (s4 q hq)⟩
theorem St.hist (S : St T hz h b n tx d cnt nxt dd fl ds fs) {cnt' nxt' : Int} {dd' : Nat → Nat → Nat → Int} {fl' : Nat → Int} (M : HsAt T h' (b + 55) cnt' nxt' dd' fl') (f : offH (b + 55) h h') : St T hz h' b n tx d cnt' nxt' dd' fl' ds fs := by
  obtain ⟨s1, -, s3, s4⟩ := S
  exact ⟨⟨cs_kept s1.1 (f _ (by omega)), s1.2.1.kept (f _ (by omega)) (f _ (by omega)), s1.2.2.1.kept (fun q q1 q2 => f q (by omega)), M, s1.2.2.2.2.kept (fun q q1 q2 => f q (by omega)) (by omega)⟩, trivial, s3.kept (fun q q1 q2 q3 => f q (by unfold cA at q1; omega)), fun q hq => (f q (by omega)).trans (s4 q hq)⟩
theorem St.slots (S : St T hz h b n tx d cnt nxt dd fl ds fs) {ds' : Nat → Nat → Nat → Int} {fs' : Nat → Int} (M : SfAt T h' (b + 298) 2 ds' fs') (f : offF (b + 298) 2 h h') : St T hz h' b n tx d cnt nxt dd fl ds' fs' := by
  obtain ⟨s1, -, s3, s4⟩ := S
  exact ⟨⟨cs_kept s1.1 (f _ (by omega)), s1.2.1.kept (f _ (by omega)) (f _ (by omega)), s1.2.2.1.kept (fun q q1 q2 => f q (by omega)), hs_kept s1.2.2.2.1 (fun q q1 q2 => f q (by omega)), M⟩, trivial, s3.kept (fun q q1 q2 q3 => f q (by unfold cA at q1; omega)), fun q hq => (f q (by omega)).trans (s4 q hq)⟩
theorem St.turned (S : St T hz h b n tx d cnt nxt dd fl ds fs) {d' e : Nat → Nat → Int} (M : ShAt T h' (b + 4) d') (E : ShAt T h' (b + 38) e) (f : ∀ q, (q < b + 4 ∨ b + 4 + 16 < q) → (q < b + 38 ∨ b + 38 + 16 < q) → h' q = h q) : St T hz h' b n tx d' cnt nxt dd fl ds fs := by
  obtain ⟨s1, -, s3, s4⟩ := S
  refine ⟨⟨cs_kept s1.1 (f _ (by omega) (by omega)), s1.2.1.kept (f _ (by omega) (by omega)) (f _ (by omega) (by omega)), M, hs_kept s1.2.2.2.1 (fun q q1 q2 => f q (by omega) (by omega)), s1.2.2.2.2.kept (fun q q1 q2 => f q (by omega) (by omega)) (by omega)⟩, trivial, ?_, fun q hq => (f q (by omega) (by omega)).trans (s4 q hq)⟩
  intro j hj
  have g : ∀ k : Nat, k < 7 → (k = 2 ∨ (shi k < 4 ∨ 20 < slo k) ∧ (shi k < 38 ∨ 54 < slo k)) := by decide
  by_cases j1 : j = 2
  · rw [j1]; exact ⟨_, E⟩
  have gj := g j hj
  exact SC1.kept hj (s3 j hj) (fun q q1 q2 => f q (by omega) (by omega))
theorem St.turnedT (S : St T hz h b n tx d cnt nxt dd fl ds fs) {d' e' : Nat → Nat → Int} (M : ShAt T h' (b + 21) d') (E : ShAt T h' (b + 38) e') (f : ∀ q, (q < b + 21 ∨ b + 21 + 16 < q) → (q < b + 38 ∨ b + 38 + 16 < q) → h' q = h q) : St T hz h' b n tx d cnt nxt dd fl ds fs := by
  obtain ⟨s1, -, s3, s4⟩ := S
  refine ⟨s1.kept (fun q hq => f q (by unfold cA at hq; omega) (by unfold cA at hq; omega)), trivial, ?_, fun q hq => (f q (by omega) (by omega)).trans (s4 q hq)⟩
  intro j hj
  have g : ∀ k : Nat, k < 7 → (k = 1 ∨ k = 2 ∨ (shi k < 21 ∨ 37 < slo k) ∧ (shi k < 38 ∨ 54 < slo k)) := by decide
  by_cases j1 : j = 1
  · rw [j1]; exact ⟨_, M⟩
  by_cases j2 : j = 2
  · rw [j2]; exact ⟨_, E⟩
  have gj := g j hj
  exact SC1.kept hj (s3 j hj) (fun q q1 q2 => f q (by omega) (by omega))
theorem St.back (S : St T hz h b n tx d cnt nxt dd fl ds fs) {cnt' nxt' : Int} {d' : Nat → Nat → Int} (H : HsAt T h' (b + 55) cnt' nxt' dd fl) (M : ShAt T h' (b + 4) d') (f : ∀ q, q ≠ b + 55 → (q < b + 4 ∨ b + 4 + 16 < q) → h' q = h q) : St T hz h' b n tx d' cnt' nxt' dd fl ds fs := by
  obtain ⟨s1, -, s3, s4⟩ := S
  exact ⟨⟨cs_kept s1.1 (f _ (by omega) (by omega)), s1.2.1.kept (f _ (by omega) (by omega)) (f _ (by omega) (by omega)), M, H, s1.2.2.2.2.kept (fun q q1 q2 => f q (by omega) (by omega)) (by omega)⟩, trivial, s3.kept (fun q q1 q2 q3 => f q (by unfold cA at q1; omega) (by unfold cA at q1; omega)), fun q hq => (f q (by omega) (by omega)).trans (s4 q hq)⟩
theorem St.tr (S : St T hz h b n tx d cnt nxt dd fl ds fs) {t' : Nat → Int} (M : TrAt h' (b + 3) t') (f : ∀ q, q ≠ b + 3 → h' q = h q) : St T hz h' b n tx d cnt nxt dd fl ds fs := S.sc (i := 0) (by omega) ⟨_, M⟩ (fun q hq => f q (by rw [show slo 0 = 3 from rfl, show shi 0 = 3 from rfl] at hq; omega))
theorem St.cs0 (S : St T hz h b n tx d cnt nxt dd fl ds fs) : CsAt h b n := S.1.1
theorem St.tx0 (S : St T hz h b n tx d cnt nxt dd fl ds fs) : Num T h (b + 1) 120 tx := S.1.2.1
theorem St.sh0 (S : St T hz h b n tx d cnt nxt dd fl ds fs) : ShAt T h (b + 4) d := S.1.2.2.1
theorem St.hs0 (S : St T hz h b n tx d cnt nxt dd fl ds fs) : HsAt T h (b + 55) cnt nxt dd fl := S.1.2.2.2.1
theorem St.sf0 (S : St T hz h b n tx d cnt nxt dd fl ds fs) : SfAt T h (b + 298) 2 ds fs := S.1.2.2.2.2
end Fr
