/-! any part, all parts -/
section Pt
variable {T : zT} {h : zH} {b o : Nat} {n : Int} {tx : Nat → Int} {d : Nat → Nat → Int} {cnt nxt : Int} {dd : Nat → Nat → Nat → Int} {fl : Nat → Int} {ds : Nat → Nat → Nat → Int} {fs v tx7 r D kp kb : Nat → Int} {x : Int64}
variable {h' : zH} {t : Nat → Int} {e : Nat → Nat → Int}
theorem rp_pre (hO : OkD e) (hT : ∀ j : Nat, (j : Int) < n → tx7 j = tx j ∧ 0 ≤ tx j ∧ tx j ≤ 255) (n2 : n ≤ 120) {i : Int} (i1 : 0 ≤ i) (i2 : i < n) (g : ¬ (tx i.toNat = 109 ∧ anyR e)) (k : zH) (v9 : Nat → Int) (x9 : Int64) (rt : Nat → Int) (K : St T k b o n tx d cnt nxt dd fl ds fs v9 tx7 r D kp kb x9) (kN : v9 2 = n) (kI : v9 3 = i) (A : Arr T k (b + 354 + 2) 739 rt) (Q : Pg e rt) : ∃ k1 v1, FX7_readPart T (b + 354) k = RP T (b + 354) k1 ∧ St T k1 b o n tx d cnt nxt dd fl ds fs v1 tx7 r D kp kb x9 ∧ v1 3 = i ∧ (∀ j, j ≠ 3 → v1 j = v9 j) ∧ Arr T k1 (b + 354 + 2) 739 rt := by
  rcases any7_eq (mo_ex K.mo0) (mo_r4 K.mo0) A Q.1 hO with ⟨w, w2⟩ | ⟨w, w2⟩
  · obtain ⟨k1, e1, K1, p1⟩ := eat_f K hT kN n2 i1 (by omega) kI (c := 109) (by omega) (by omega) (fun z => g ⟨z.2, w⟩)
    refine ⟨k1, _, ?_, K1, upZ_self _ _ _, fun j hj => upZ_ne _ _ hj, A.kept (p1 _ (by omega))⟩
    rw [rp_form, mo_zo K.mo0, zsn]
    simp only [zJn]
    rw [w2, zsn, q0, if_neg (show ¬ iZ 1 = iZ 0 by decide), r109, e1, zb2n, if_pos rfl]
  · refine ⟨k, v9, ?_, K, kI, fun _ _ => rfl, A⟩
    rw [rp_form, mo_zo K.mo0, zsn]
    simp only [zJn]
    rw [w2, zsn, q0, if_pos rfl]
theorem rp_m (hO : OkD e) (hT : ∀ j : Nat, (j : Int) < n → tx7 j = tx j ∧ 0 ≤ tx j ∧ tx j ≤ 255) (n2 : n ≤ 120) {i : Int} (i1 : 0 ≤ i) (i2 : i < n) (g : tx i.toNat = 109 ∧ anyR e) (k : zH) (v9 : Nat → Int) (x9 : Int64) (rt : Nat → Int) (K : St T k b o n tx d cnt nxt dd fl ds fs v9 tx7 r D kp kb x9) (kN : v9 2 = n) (kI : v9 3 = i) (A : Arr T k (b + 354 + 2) 739 rt) (Q : Pg e rt) : ∃ k1 v1, St T k1 b o n tx d cnt nxt dd fl ds fs v1 tx7 r D kp kb x9 ∧ v1 3 = i + 1 ∧ (∀ j, j ≠ 3 → v1 j = v9 j) ∧ Arr T k1 (b + 354 + 2) 739 rt ∧ ∀ (u : Int) (k' : zH), (u = 0 ∨ u = 1) → FX7_readMark T (b + 354) k1 = some (iZ u, k') → FX7_readPart T (b + 354) k = some (iZ u, k') := by
  obtain ⟨k1, e1, K1, p1⟩ := eat_t K hT kN n2 i1 (by omega) kI (c := 109) (by omega) (by omega) ⟨i2, g.1⟩
  refine ⟨k1, _, K1, upZ_self _ _ _, fun j hj => upZ_ne _ _ hj, A.kept (p1 _ (by omega)), fun u k' hu hf => ?_⟩
  rcases any7_eq (mo_ex K.mo0) (mo_r4 K.mo0) A Q.1 hO with ⟨w, w2⟩ | ⟨w, w2⟩
  · rw [rp_form, mo_zo K.mo0, zsn]
    simp only [zJn]
    rw [w2, zsn, q0, if_neg (show ¬ iZ 1 = iZ 0 by decide), r109, e1, zb2n, if_neg (show ¬ iZ 1 = iZ 0 by decide), hf, zb2n, q1]
    rcases hu with rfl | rfl
    · (first | rw [if_pos (Or.inl rfl)] | rw [if_pos (Or.inl trivial)] | rw [if_pos (Or.inr rfl)] | rw [if_pos (Or.inr trivial)])
    · (first | rw [if_pos (Or.inl rfl)] | rw [if_pos (Or.inl trivial)] | rw [if_pos (Or.inr rfl)] | rw [if_pos (Or.inr trivial)])
  · exact absurd g.2 w
theorem rp_g (hO : OkD e) (hT : ∀ j : Nat, (j : Int) < n → tx7 j = tx j ∧ 0 ≤ tx j ∧ tx j ≤ 255) (n2 : n ≤ 120) {i : Int} (i1 : 0 ≤ i) (i2 : i < n) (g : tx i.toNat = 103) (k : zH) (v9 : Nat → Int) (x9 : Int64) (rt : Nat → Int) (K : St T k b o n tx d cnt nxt dd fl ds fs v9 tx7 r D kp kb x9) (kN : v9 2 = n) (kI : v9 3 = i) (A : Arr T k (b + 354 + 2) 739 rt) (Q : Pg e rt) : ∃ k1 v1, St T k1 b o n tx d cnt nxt dd fl ds fs v1 tx7 r D kp kb x9 ∧ v1 3 = i + 1 ∧ (∀ j, j ≠ 3 → v1 j = v9 j) ∧ Arr T k1 (b + 354 + 2) 739 rt ∧ ∀ (u : Int) (k' : zH), (u = 0 ∨ u = 1) → FX7_readNumber T (b + 354) (iZ 3) (iZ 1) (iZ 3) k1 = some (iZ u, k') → FX7_readPart T (b + 354) k = some (iZ u, k') := by
  obtain ⟨k1, v1, e1, K1, u1, u2, A1⟩ := rp_pre hO hT n2 i1 i2 (by omega) k v9 x9 rt K kN kI A Q
  obtain ⟨k2, e2, K2, p2⟩ := eat_t K1 hT ((u2 2 (by decide)).trans kN) n2 i1 (by omega) u1 (c := 103) (by omega) (by omega) ⟨i2, g⟩
  refine ⟨k2, _, K2, upZ_self _ _ _, fun j hj => (upZ_ne _ _ hj).trans (u2 j hj), A1.kept (p2 _ (by omega)), fun u k' hu hf => ?_⟩
  rw [e1]
  unfold RP
  rw [r103, e2, zb2n, q0, if_neg (show ¬ iZ 1 = iZ 0 by decide), q3, q1, hf, zb2n]
  rcases hu with rfl | rfl
  · (first | rw [if_pos (Or.inl rfl)] | rw [if_pos (Or.inl trivial)] | rw [if_pos (Or.inr rfl)] | rw [if_pos (Or.inr trivial)])
  · (first | rw [if_pos (Or.inl rfl)] | rw [if_pos (Or.inl trivial)] | rw [if_pos (Or.inr rfl)] | rw [if_pos (Or.inr trivial)])
theorem rp_v (hO : OkD e) (hT : ∀ j : Nat, (j : Int) < n → tx7 j = tx j ∧ 0 ≤ tx j ∧ tx j ≤ 255) (n2 : n ≤ 120) {i : Int} (i1 : 0 ≤ i) (i2 : i < n) (g : tx i.toNat = 118) (k : zH) (v9 : Nat → Int) (x9 : Int64) (rt : Nat → Int) (K : St T k b o n tx d cnt nxt dd fl ds fs v9 tx7 r D kp kb x9) (kN : v9 2 = n) (kI : v9 3 = i) (A : Arr T k (b + 354 + 2) 739 rt) (Q : Pg e rt) : ∃ k1 v1, St T k1 b o n tx d cnt nxt dd fl ds fs v1 tx7 r D kp kb x9 ∧ v1 3 = i + 1 ∧ (∀ j, j ≠ 3 → v1 j = v9 j) ∧ Arr T k1 (b + 354 + 2) 739 rt ∧ ∀ (u : Int) (k' : zH), (u = 0 ∨ u = 1) → FX7_readNumber T (b + 354) (iZ 2) (iZ 0) (iZ 9) k1 = some (iZ u, k') → FX7_readPart T (b + 354) k = some (iZ u, k') := by
  obtain ⟨k1, v1, e1, K1, u1, u2, A1⟩ := rp_pre hO hT n2 i1 i2 (by omega) k v9 x9 rt K kN kI A Q
  obtain ⟨k2, e2, K2, p2⟩ := eat_f K1 hT ((u2 2 (by decide)).trans kN) n2 i1 (by omega) u1 (c := 103) (by omega) (by omega) (by omega)
  obtain ⟨k3, e3, K3, p3⟩ := eat_t K2 hT ((upZ_ne _ _ (by decide)).trans ((u2 2 (by decide)).trans kN)) n2 i1 (by omega) (upZ_self _ _ _) (c := 118) (by omega) (by omega) ⟨i2, g⟩
  refine ⟨k3, _, K3, upZ_self _ _ _, fun j hj => (upZ_ne _ _ hj).trans ((upZ_ne _ _ hj).trans (u2 j hj)), (A1.kept (p2 _ (by omega))).kept (p3 _ (by omega)), fun u k' hu hf => ?_⟩
  rw [e1]
  unfold RP
  rw [r103, e2, zb2n, q0, if_pos rfl, r118, e3, zb2n, if_neg (show ¬ iZ 1 = iZ 0 by decide), q2, q9, hf, zb2n, q1]
  rcases hu with rfl | rfl
  · (first | rw [if_pos (Or.inl rfl)] | rw [if_pos (Or.inl trivial)] | rw [if_pos (Or.inr rfl)] | rw [if_pos (Or.inr trivial)])
  · (first | rw [if_pos (Or.inl rfl)] | rw [if_pos (Or.inl trivial)] | rw [if_pos (Or.inr rfl)] | rw [if_pos (Or.inr trivial)])
theorem rp_p (hO : OkD e) (hT : ∀ j : Nat, (j : Int) < n → tx7 j = tx j ∧ 0 ≤ tx j ∧ tx j ≤ 255) (n2 : n ≤ 120) {i : Int} (i1 : 0 ≤ i) (i2 : i < n) (g : tx i.toNat = 112) (k : zH) (v9 : Nat → Int) (x9 : Int64) (rt : Nat → Int) (K : St T k b o n tx d cnt nxt dd fl ds fs v9 tx7 r D kp kb x9) (kN : v9 2 = n) (kI : v9 3 = i) (A : Arr T k (b + 354 + 2) 739 rt) (Q : Pg e rt) : ∃ k1 v1, St T k1 b o n tx d cnt nxt dd fl ds fs v1 tx7 r D kp kb x9 ∧ v1 3 = i + 1 ∧ (∀ j, j ≠ 3 → v1 j = v9 j) ∧ Arr T k1 (b + 354 + 2) 739 rt ∧ ∀ (u : Int) (k' : zH), (u = 0 ∨ u = 1) → FX7_readPen T (b + 354) k1 = some (iZ u, k') → FX7_readPart T (b + 354) k = some (iZ u, k') := by
  obtain ⟨k1, v1, e1, K1, u1, u2, A1⟩ := rp_pre hO hT n2 i1 i2 (by omega) k v9 x9 rt K kN kI A Q
  obtain ⟨k2, e2, K2, p2⟩ := eat_f K1 hT ((u2 2 (by decide)).trans kN) n2 i1 (by omega) u1 (c := 103) (by omega) (by omega) (by omega)
  obtain ⟨k3, e3, K3, p3⟩ := eat_f K2 hT ((upZ_ne _ _ (by decide)).trans ((u2 2 (by decide)).trans kN)) n2 i1 (by omega) (upZ_self _ _ _) (c := 118) (by omega) (by omega) (by omega)
  obtain ⟨k4, e4, K4, p4⟩ := eat_t K3 hT ((upZ_ne _ _ (by decide)).trans ((upZ_ne _ _ (by decide)).trans ((u2 2 (by decide)).trans kN))) n2 i1 (by omega) (upZ_self _ _ _) (c := 112) (by omega) (by omega) ⟨i2, g⟩
  refine ⟨k4, _, K4, upZ_self _ _ _, fun j hj => (upZ_ne _ _ hj).trans ((upZ_ne _ _ hj).trans ((upZ_ne _ _ hj).trans (u2 j hj))), ((A1.kept (p2 _ (by omega))).kept (p3 _ (by omega))).kept (p4 _ (by omega)), fun u k' hu hf => ?_⟩
  rw [e1]
  unfold RP
  simp only [zJn]
  rw [r103, e2, zb2n, q0, if_pos rfl, r118, e3, zb2n, if_pos rfl, r112, e4, zb2n, if_neg (show ¬ iZ 1 = iZ 0 by decide), hf, zb2n]
  rcases hu with rfl | rfl
  · rw [if_pos rfl]
    (first | rw [if_pos (Or.inl rfl)] | rw [if_pos (Or.inl trivial)] | rw [if_pos (Or.inr rfl)] | rw [if_pos (Or.inr trivial)])
  · rw [if_neg (show ¬ iZ 1 = iZ 0 by decide)]
    (first | rw [if_pos (Or.inl rfl)] | rw [if_pos (Or.inl trivial)] | rw [if_pos (Or.inr rfl)] | rw [if_pos (Or.inr trivial)])
    rfl
theorem rp_no (hO : OkD e) (hT : ∀ j : Nat, (j : Int) < n → tx7 j = tx j ∧ 0 ≤ tx j ∧ tx j ≤ 255) (n2 : n ≤ 120) {i : Int} (i1 : 0 ≤ i) (i2 : i < n) (g : ¬ ((tx i.toNat = 109 ∧ anyR e) ∨ tx i.toNat = 103 ∨ tx i.toNat = 118 ∨ tx i.toNat = 112)) : MPp T b o n tx tx7 r D kp kb (FX7_readPart T (b + 354)) i e i 0 e := fun d cnt nxt dd fl ds fs k v9 x9 rt K kN kI A Q => by
  obtain ⟨k1, v1, e1, K1, u1, u2, A1⟩ := rp_pre hO hT n2 i1 i2 (fun z => g (Or.inl z)) k v9 x9 rt K kN kI A Q
  obtain ⟨k2, e2, K2, p2⟩ := eat_f K1 hT ((u2 2 (by decide)).trans kN) n2 i1 (by omega) u1 (c := 103) (by omega) (by omega) (fun z => g (Or.inr (Or.inl z.2)))
  obtain ⟨k3, e3, K3, p3⟩ := eat_f K2 hT ((upZ_ne _ _ (by decide)).trans ((u2 2 (by decide)).trans kN)) n2 i1 (by omega) (upZ_self _ _ _) (c := 118) (by omega) (by omega) (fun z => g (Or.inr (Or.inr (Or.inl z.2))))
  obtain ⟨k4, e4, K4, p4⟩ := eat_f K3 hT ((upZ_ne _ _ (by decide)).trans ((upZ_ne _ _ (by decide)).trans ((u2 2 (by decide)).trans kN))) n2 i1 (by omega) (upZ_self _ _ _) (c := 112) (by omega) (by omega) (fun z => g (Or.inr (Or.inr (Or.inr z.2))))
  refine ⟨k4, _, rt, ?_, K4, upZ_self _ _ _, fun j hj => (upZ_ne _ _ hj).trans ((upZ_ne _ _ hj).trans ((upZ_ne _ _ hj).trans (u2 j hj))), ((A1.kept (p2 _ (by omega))).kept (p3 _ (by omega))).kept (p4 _ (by omega)), fun z => absurd z (by decide)⟩
  rw [e1]
  unfold RP
  simp only [zJn]
  rw [r103, e2, zb2n, q0, if_pos rfl, r118, e3, zb2n, if_pos rfl, r112, e4, zb2n, if_pos rfl]
  (first | rw [if_pos (Or.inl rfl)] | rw [if_pos (Or.inl trivial)] | rw [if_pos (Or.inr rfl)] | rw [if_pos (Or.inr trivial)])
theorem part_blk (S : St T h b o n tx d cnt nxt dd fl ds fs v tx7 r D kp kb x) (H : TrAt h (b + 3) t) (ht : t 0 = 3) (M : ShAt T h (b + 21) e) (hO : OkD e) (hT : ∀ j : Nat, (j : Int) < n → tx7 j = tx j ∧ 0 ≤ tx j ∧ tx j ≤ 255) (n2 : n ≤ 120) {i : Int} (i1 : 0 ≤ i) (i2 : i < n) (q : Nat) : Blk T b o n tx d cnt nxt dd fl ds fs tx7 r D kp kb v x h (FX7_readPart T (b + 354)) (q + 7) i e i := by
  have tc := (hT i.toNat (by omega)).2
  have al := al3 H M hO tc.1 tc.2 ht
  obtain ⟨h1, t1, H1, M1, S1⟩ := tk3 S H M tc.1 tc.2 ht
  by_cases gm : tx i.toNat = 109 ∧ anyR e
  · exact blk_go (fun d cnt nxt dd fl ds fs => rp_m hO hT n2 i1 i2 gm) (cr_good S n2 i1 ⟨i2, Or.inl gm⟩ al t1 (q + 6)) (mark_blk S1 H1 ((upZ_self _ _ _).trans (if_pos gm.1)) M1 hO hT n2 (i := i + 1) (by omega) (by omega) q)
  by_cases gg : tx i.toNat = 103
  · exact blk_go (fun d cnt nxt dd fl ds fs => rp_g hO hT n2 i1 i2 gg) (cr_good S n2 i1 ⟨i2, Or.inr (Or.inl gg)⟩ al t1 (q + 6)) (gap_blk S1 H1 ((upZ_self _ _ _).trans ((if_neg (by omega)).trans (if_pos gg))) M1 hO hT n2 (i := i + 1) (by omega) (by omega) (q + 5))
  by_cases gv : tx i.toNat = 118
  · exact blk_go (fun d cnt nxt dd fl ds fs => rp_v hO hT n2 i1 i2 gv) (cr_good S n2 i1 ⟨i2, Or.inr (Or.inr (Or.inl gv))⟩ al t1 (q + 6)) (mar_blk S1 H1 ((upZ_self _ _ _).trans ((if_neg (by omega)).trans ((if_neg (by omega)).trans (if_pos gv)))) M1 hO hT n2 (i := i + 1) (by omega) (by omega) (q + 5))
  by_cases gp : tx i.toNat = 112
  · exact blk_go (fun d cnt nxt dd fl ds fs => rp_p hO hT n2 i1 i2 gp) (cr_good S n2 i1 ⟨i2, Or.inr (Or.inr (Or.inr gp))⟩ al t1 (q + 6)) (pen_blk S1 H1 ((upZ_self _ _ _).trans ((if_neg (by omega)).trans ((if_neg (by omega)).trans (if_neg (by omega))))) M1 hO hT n2 (i := i + 1) (by omega) (by omega) (q + 2))
  have gn : ¬ ((tx i.toNat = 109 ∧ anyR e) ∨ tx i.toNat = 103 ∨ tx i.toNat = 118 ∨ tx i.toNat = 112) := fun z => by
    rcases z with z | z | z | z
    · exact gm z
    · exact gg z
    · exact gv z
    · exact gp z
  rw [ind_f gn] at al
  exact Or.inl ⟨i, h, cr_no S i1 i2 n2 al (q + 6), ⟨i1, by omega⟩, S, rp_no hO hT n2 i1 i2 gn⟩
theorem parts (hT : ∀ j : Nat, (j : Int) < n → tx7 j = tx j ∧ 0 ≤ tx j ∧ tx j ≤ 255) (n2 : n ≤ 120) : ∀ (q : Nat) (i : Int) (k : Nat) (h : zH) (t : Nat → Int) (e : Nat → Nat → Int), n - i ≤ q → 0 ≤ i → i ≤ n → n - i + 8 ≤ k → St T h b o n tx d cnt nxt dd fl ds fs v tx7 r D kp kb x → TrAt h (b + 3) t → t 0 = 3 → ShAt T h (b + 21) e → OkD e → (∃ p h', CR T b k i h = some (iZ p, h') ∧ (0 ≤ p ∧ p ≤ n) ∧ St T h' b o n tx d cnt nxt dd fl ds fs v tx7 r D kp kb x ∧ ∀ (d : Nat → Nat → Int) (cnt nxt : Int) (dd : Nat → Nat → Nat → Int) (fl : Nat → Int) (ds : Nat → Nat → Nat → Int) (fs : Nat → Int) (k7 : Nat) (k9 : zH) (v9 : Nat → Int) (x9 : Int64) (rt : Nat → Int), q < k7 → St T k9 b o n tx d cnt nxt dd fl ds fs v9 tx7 r D kp kb x9 → v9 2 = n → v9 3 = i → Arr T k9 (b + 354 + 2) 739 rt → Pg e rt → ∃ k' v' rt', LX7_readAll_60 T (b + 354) (fun (h19 : zH) => some (iZ 0, h19)) (fun (h20 : zH) => some (iZ 1, h20)) k7 k9 = some (iZ 0, k') ∧ St T k' b o n tx d cnt nxt dd fl ds fs v' tx7 r D kp kb x9 ∧ v' 3 = p ∧ (∀ j, j ≠ 3 → v' j = v9 j) ∧ Arr T k' (b + 354 + 2) 739 rt') ∨ (∃ h' e', CR T b k i h = some (iZ (-9), h') ∧ ShAt T h' (b + 21) e' ∧ OkD e' ∧ St T h' b o n tx d cnt nxt dd fl ds fs v tx7 r D kp kb x ∧ ∀ (d : Nat → Nat → Int) (cnt nxt : Int) (dd : Nat → Nat → Nat → Int) (fl : Nat → Int) (ds : Nat → Nat → Nat → Int) (fs : Nat → Int) (k7 : Nat) (k9 : zH) (v9 : Nat → Int) (x9 : Int64) (rt : Nat → Int), q < k7 → St T k9 b o n tx d cnt nxt dd fl ds fs v9 tx7 r D kp kb x9 → v9 2 = n → v9 3 = i → Arr T k9 (b + 354 + 2) 739 rt → Pg e rt → ∃ k' v' rt', LX7_readAll_60 T (b + 354) (fun (h19 : zH) => some (iZ 0, h19)) (fun (h20 : zH) => some (iZ 1, h20)) k7 k9 = some (iZ 1, k') ∧ St T k' b o n tx d cnt nxt dd fl ds fs v' tx7 r D kp kb x9 ∧ (∀ j, j ≠ 3 → v' j = v9 j) ∧ Arr T k' (b + 354 + 2) 739 rt' ∧ Pg e' rt') := by
  intro q
  induction q with
  | zero =>
    intro i k h t e h1 h2 h3 h4 S H ht M hO
    have ei : i = n := by omega
    obtain ⟨k, rfl⟩ : ∃ u, k = u + 1 := ⟨k - 1, by omega⟩
    refine Or.inr ⟨h, e, ?_, M, hO, S, fun d cnt nxt dd fl ds fs k7 k9 v9 x9 rt hk K kN kI A Q => ⟨k9, v9, rt, ?_, K, fun _ _ => rfl, A, Q⟩⟩
    · rw [ei]; exact cr_done S H ht (by omega) n2 k
    · obtain ⟨k7, rfl⟩ : ∃ u, k7 = u + 1 := ⟨k7 - 1, by omega⟩
      rw [LX7_readAll_60.eq_2, mo_g3 K.mo0, zsn, mo_g2 K.mo0, zsn, kI, kN, ei, if_pos (by exact Int32.le_refl _)]
  | succ q ih =>
    intro i k h t e h1 h2 h3 h4 S H ht M hO
    by_cases ei : i = n
    · obtain ⟨k, rfl⟩ : ∃ u, k = u + 1 := ⟨k - 1, by omega⟩
      refine Or.inr ⟨h, e, ?_, M, hO, S, fun d cnt nxt dd fl ds fs k7 k9 v9 x9 rt hk K kN kI A Q => ⟨k9, v9, rt, ?_, K, fun _ _ => rfl, A, Q⟩⟩
      · rw [ei]; exact cr_done S H ht (by omega) n2 k
      · obtain ⟨k7, rfl⟩ : ∃ u, k7 = u + 1 := ⟨k7 - 1, by omega⟩
        rw [LX7_readAll_60.eq_2, mo_g3 K.mo0, zsn, mo_g2 K.mo0, zsn, kI, kN, ei, if_pos (by exact Int32.le_refl _)]
    obtain ⟨k, rfl⟩ : ∃ u, k = u + 7 := ⟨k - 7, by omega⟩
    have step : ∀ (d : Nat → Nat → Int) (cnt nxt : Int) (dd : Nat → Nat → Nat → Int) (fl : Nat → Int) (ds : Nat → Nat → Nat → Int) (fs : Nat → Int) (k7 : Nat) (k9 : zH) (v9 : Nat → Int) (x9 : Int64), St T k9 b o n tx d cnt nxt dd fl ds fs v9 tx7 r D kp kb x9 → v9 2 = n → v9 3 = i → ∀ (u : Int) (k' : zH), FX7_readPart T (b + 354) k9 = some (iZ u, k') → LX7_readAll_60 T (b + 354) (fun (h19 : zH) => some (iZ 0, h19)) (fun (h20 : zH) => some (iZ 1, h20)) (k7 + 1) k9 = if iZ u = iZ 0 then some (iZ 0, k') else LX7_readAll_60 T (b + 354) (fun (h19 : zH) => some (iZ 0, h19)) (fun (h20 : zH) => some (iZ 1, h20)) k7 k' := fun d cnt nxt dd fl ds fs k7 k9 v9 x9 K kN kI u k' hf => by
      rw [LX7_readAll_60.eq_2, mo_g3 K.mo0, zsn, mo_g2 K.mo0, zsn, kI, kN, if_neg (by rw [iZ_le (by omega) (by omega) (by omega) (by omega)]; omega), hf, zb2n, q0]
    rcases part_blk S H ht M hO hT n2 h2 (by omega) k with ⟨p, h', b1, b2, b3, b4⟩ | ⟨k2, i', h', t', e', b1, b2, b3, b4, b5, b6, b7, b8, b9⟩
    · refine Or.inl ⟨p, h', b1, b2, b3, fun d cnt nxt dd fl ds fs k7 k9 v9 x9 rt hk K kN kI A Q => ?_⟩
      obtain ⟨k7, rfl⟩ : ∃ u, k7 = u + 1 := ⟨k7 - 1, by omega⟩
      obtain ⟨k', v', rt', c1, c2, c3, c4, c5, -⟩ := b4 d cnt nxt dd fl ds fs k9 v9 x9 rt K kN kI A Q
      exact ⟨k', v', rt', by rw [step d cnt nxt dd fl ds fs k7 k9 v9 x9 K kN kI 0 k' c1, if_pos rfl], c2, c3, c4, c5⟩
    · have rest := ih i' k2 h' t' e' (by omega) (by omega) b3.2 (by omega) b8 b4 b5 b6 b7
      rcases rest with ⟨p, h3', d1, d2, d3, d4⟩ | ⟨h3', e3', d1, d2, d3, d4, d5⟩
      · refine Or.inl ⟨p, h3', b1.trans d1, d2, d3, fun d cnt nxt dd fl ds fs k7 k9 v9 x9 rt hk K kN kI A Q => ?_⟩
        obtain ⟨k7, rfl⟩ : ∃ u, k7 = u + 1 := ⟨k7 - 1, by omega⟩
        obtain ⟨k', v', rt', c1, c2, c3, c4, c5, c6⟩ := b9 d cnt nxt dd fl ds fs k9 v9 x9 rt K kN kI A Q
        obtain ⟨k3, v3, rt3, f1, f2, f3, f4, f5⟩ := d4 d cnt nxt dd fl ds fs k7 k' v' x9 rt' (by omega) c2 ((c4 2 (by decide)).trans kN) c3 c5 (c6 rfl)
        exact ⟨k3, v3, rt3, by rw [step d cnt nxt dd fl ds fs k7 k9 v9 x9 K kN kI 1 k' c1, if_neg (show ¬ iZ 1 = iZ 0 by decide), f1], f2, f3, fun j hj => (f4 j hj).trans (c4 j hj), f5⟩
      · refine Or.inr ⟨h3', e3', b1.trans d1, d2, d3, d4, fun d cnt nxt dd fl ds fs k7 k9 v9 x9 rt hk K kN kI A Q => ?_⟩
        obtain ⟨k7, rfl⟩ : ∃ u, k7 = u + 1 := ⟨k7 - 1, by omega⟩
        obtain ⟨k', v', rt', c1, c2, c3, c4, c5, c6⟩ := b9 d cnt nxt dd fl ds fs k9 v9 x9 rt K kN kI A Q
        obtain ⟨k3, v3, rt3, f1, f2, f3, f4, f5⟩ := d5 d cnt nxt dd fl ds fs k7 k' v' x9 rt' (by omega) c2 ((c4 2 (by decide)).trans kN) c3 c5 (c6 rfl)
        exact ⟨k3, v3, rt3, by rw [step d cnt nxt dd fl ds fs k7 k9 v9 x9 K kN kI 1 k' c1, if_neg (show ¬ iZ 1 = iZ 0 by decide), f1], f2, fun j hj => (f3 j hj).trans (c4 j hj), f4, f5⟩
end Pt
