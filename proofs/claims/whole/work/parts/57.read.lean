/-! the present sheet is read within the state; a loop that gathers -/
def accu (g : Nat → Int → Int) : Nat → Int → Int
  | 0, s => s
  | n + 1, s => g n (accu g n s)
theorem loop_acc {ρ : Type} {L : Nat → Int32 → Int32 → Option ρ} {K : Int32 → Option ρ} {g : Nat → Int → Int} {P : Nat → Int → Prop} {n : Nat} (hn : n < 9999) (hs : ∀ (k : Nat) (s : Int) (i : Nat), i < n → P i s → L (k + 1) (iZ s) (iZ i) = L k (iZ (g i s)) (iZ (i + 1)) ∧ P (i + 1) (g i s)) (he : ∀ (k : Nat) (s : Int), P n s → L (k + 1) (iZ s) (iZ n) = K (iZ s)) {s : Int} (h0 : P 0 s) : L FUEL (iZ s) (iZ 0) = K (iZ (accu g n s)) ∧ P n (accu g n s) := by
  have key : ∀ i : Nat, i ≤ n → ∃ k, k + i = FUEL ∧ L FUEL (iZ s) (iZ 0) = L k (iZ (accu g i s)) (iZ i) ∧ P i (accu g i s) := by
    intro i
    induction i with
    | zero => intro _; exact ⟨FUEL, rfl, rfl, h0⟩
    | succ i ih =>
      intro hi
      obtain ⟨k, e1, e2, e3⟩ := ih (by omega)
      obtain ⟨k', rfl⟩ : ∃ k', k = k' + 1 := ⟨k - 1, by unfold FUEL at e1; omega⟩
      obtain ⟨a1, a2⟩ := hs k' _ i (by omega) e3
      refine ⟨k', by omega, ?_, a2⟩
      rw [e2, a1]
      rfl
  obtain ⟨k, e1, e2, e3⟩ := key n (by omega)
  obtain ⟨k', rfl⟩ : ∃ k', k = k' + 1 := ⟨k - 1, by unfold FUEL at e1; omega⟩
  exact ⟨e2.trans (he k' _ e3), e3⟩
section Rp
variable {T : zT} {h : zH} {b o : Nat} {n : Int} {tx : Nat → Int} {d : Nat → Nat → Int} {cnt nxt : Int} {dd : Nat → Nat → Nat → Int} {fl : Nat → Int} {ds : Nat → Nat → Nat → Int} {fs v tx7 r D kp kb : Nat → Int} {x : Int64}
theorem rdok {w : Nat → Nat → Int} (hO : OkD d) {L : Nat} (hN : RdNew w) : RdOk (wall d L (d 3 L) w (nL d (d 3 L))) 81 := by
  have h9 := nLP hO (d 3 L)
  exact (RdOk_all hO hN.ok _ (Nat.le_refl _)).mono (by omega)
theorem rdso {w : Nat → Nat → Int} (hO : OkD d) {L : Nat} (hN : RdNew w) : SO (wall d L (d 3 L) w (nL d (d 3 L))) := SO_all hO hN.ok (SO_new hN) _ (Nat.le_refl _)
theorem RdOk.rin {w : Nat → Nat → Int} {n : Int} (h : RdOk w n) : RdIn w := by
  obtain ⟨a1, a2, a3, a4, a5, a6, a7, a8, a9, b1, b2, b3, b4⟩ := h
  exact ⟨a7, a8, a9, b1, b2, b3⟩
theorem St.rp (S : St T h b o n tx d cnt nxt dd fl ds fs v tx7 r D kp kb x) (hO : OkD d) {L : Nat} (hL : L < 2) : ∃ h' w0, FX6_readPresent T b (iZ L) h = some (iZ (wall d L (d 3 L) w0 (nL d (d 3 L)) 0 0), h') ∧ RdAt T h' (b + 336) (wall d L (d 3 L) w0 (nL d (d 3 L))) ∧ St T h' b o n tx d cnt nxt dd fl ds fs v tx7 r D kp kb x ∧ RdNew w0 := by
  have S3 : ∃ w, RdAt T h (b + 336) w ∧ RdIn w := S.2.2.1 3 (by omega)
  obtain ⟨w, hR, hI⟩ := S3
  obtain ⟨h', w0, e, R1, f1, N1⟩ := readLetter_eq hR hI S.sh0 hO (by omega) hL
  refine ⟨h', w0, ?_, R1, S.sc (i := 3) (by omega) ⟨_, R1, (rdok hO N1).rin⟩ (fun q hq => f1 q hq), N1⟩
  unfold FX6_readPresent
  rw [cs_zo S.cs0, zsn, cs_r8 S.cs0, zsn, cs_r3 S.cs0, zsn, zsn, sh_g3 S.sh0, zsn, e, zb2n]
theorem St.wh (S : St T h b o n tx d cnt nxt dd fl ds fs v tx7 r D kp kb x) : ∃ bg sg wo, WH T h (b + 354) (b + 354 + 3) r v bg sg wo := by
  have A1 : ∃ f, Arr T h (b + 354 + 9) 81 f := S.2.2.1 10 (by omega)
  have A2 : ∃ f, Arr T h (b + 354 + 10) 82 f := S.2.2.1 11 (by omega)
  have A3 : ∃ f, Arr T h (b + 354 + 11) 81 f := S.2.2.1 12 (by omega)
  obtain ⟨wo, a1⟩ := A1
  obtain ⟨bg, a2⟩ := A2
  obtain ⟨sg, a3⟩ := A3
  exact ⟨bg, sg, wo, S.mo0, a2, a3, a1, S.pg0⟩
theorem St.ln (S : St T h b o n tx d cnt nxt dd fl ds fs v tx7 r D kp kb x) (R : Rel n tx d cnt nxt dd fl ds fs v tx7 r D kp kb) {w : Nat → Nat → Int} {L : Nat} (hL : L < 2) (hN : RdNew w) : ∃ h' v' bg sg wo, FX7_layNow T (b + 354) (iZ L) h = some (iZ (wall d L (d 3 L) w (nL d (d 3 L)) 0 0), h') ∧ WH T h' (b + 354) (b + 354 + 3) r v' bg sg wo ∧ Wds (wall d L (d 3 L) w (nL d (d 3 L))) v' bg sg wo ∧ (∀ j, j < 15 → v' j = v j) ∧ St T h' b o n tx d cnt nxt dd fl ds fs v' tx7 r D kp kb x ∧ Rel n tx d cnt nxt dd fl ds fs v' tx7 r D kp kb := by
  obtain ⟨bg0, sg0, wo0, H0⟩ := S.wh
  obtain ⟨h', v', bg, sg, wo, e, H1, W1, lo, f⟩ := layNow_eq H0 R.2.1.2 R.2.1.1 hL hN
  exact ⟨h', v', bg, sg, wo, e, H1, W1, lo, S.lay H1 f, R.vv (lo 2 (by omega)) (lo 9 (by omega))⟩
theorem St.fin (S : St T h b o n tx d cnt nxt dd fl ds fs v tx7 r D kp kb x) (R : Rel n tx d cnt nxt dd fl ds fs v tx7 r D kp kb) {c : Int} (e : v 0 = c) : Fin T h b o c x := ⟨_, _, _, _, _, _, _, _, _, _, _, _, _, _, _, S, R, e⟩
theorem chkWord_t {w : Nat → Nat → Int} {m : Int} (hC : CsAt h b n) (hR : RdAt T h (b + 336) w) (hW : RdOk w 81) (i1 : 0 ≤ m) (i2 : m < w 0 0) : FX6_checkWord T b (iZ m) h = some (.ok (), h) := by
  unfold FX6_checkWord
  rw [cs_zo hC, zsn, cs_r8 hC, zsn, hasNum_t hR hW i1 i2, zsn, q0, if_neg (by decide)]
theorem chkWord_f {w : Nat → Nat → Int} {m : Int} (hC : CsAt h b n) (hR : RdAt T h (b + 336) w) (hW : RdOk w 81) (i1 : -2147483648 ≤ m) (i2 : m < 2147483648) (g : ¬ (0 ≤ m ∧ m < w 0 0)) : FX6_checkWord T b (iZ m) h = some (.error "java/lang/IndexOutOfBoundsException", h) := by
  unfold FX6_checkWord
  rw [cs_zo hC, zsn, cs_r8 hC, zsn, hasNum_f hR hW i1 i2 g, zsn, q0, if_pos rfl]
/-- is there such a letter and word -/
theorem St.iw_t (S : St T h b o n tx d cnt nxt dd fl ds fs v tx7 r D kp kb x) (R : Rel n tx d cnt nxt dd fl ds fs v tx7 r D kp kb) {w : Nat → Nat → Int} {L : Nat} (hL : L < 2) (hN : RdNew w) {m : Int} (m1 : -2147483648 ≤ m) (m2 : m < 2147483648) : ∃ h' v' bg sg wo, FX7_isWord T (b + 354) (iZ L) (iZ m) h = some (iZ (if 0 ≤ m ∧ m < wall d L (d 3 L) w (nL d (d 3 L)) 0 0 then 1 else 0), h') ∧ WH T h' (b + 354) (b + 354 + 3) r v' bg sg wo ∧ Wds (wall d L (d 3 L) w (nL d (d 3 L))) v' bg sg wo ∧ (∀ j, j < 15 → v' j = v j) ∧ St T h' b o n tx d cnt nxt dd fl ds fs v' tx7 r D kp kb x ∧ Rel n tx d cnt nxt dd fl ds fs v' tx7 r D kp kb := by
  obtain ⟨h', v', bg, sg, wo, e, H1, W1, lo, S1, R1⟩ := S.ln R hL hN
  refine ⟨h', v', bg, sg, wo, ?_, H1, W1, lo, S1, R1⟩
  have hk := rdok (L := L) R.2.1.1 hN
  have k1 := hk.1
  have k2 := hk.2.1
  unfold FX7_isWord
  rw [mo_zo S.mo0, zsn]
  simp only [zJn]
  rw [isLet7_t (by omega) (by omega), zsn, q0, if_neg (by decide), e, zb2n, q1, iZ_sub, iZ_long m1 m2, iZ_long (by omega) (by omega), l0]
  by_cases g : 0 ≤ m ∧ m < wall d L (d 3 L) w (nL d (d 3 L)) 0 0
  · rw [in_t (by omega) (by omega) (by omega) (by omega) (by omega) (by omega) (by omega), zsn, if_neg (by decide), if_pos (Or.inr trivial), if_pos g]
  · rw [in_f (by omega) (by omega) (by omega) (by omega) (by omega) (by omega) (by omega), zsn, if_pos rfl, if_pos (Or.inl trivial), if_neg g]
theorem St.iw_f (S : St T h b o n tx d cnt nxt dd fl ds fs v tx7 r D kp kb x) {k m : Int} (z1 : -2147483648 ≤ k) (z2 : k < 2147483648) (g : ¬ (0 ≤ k ∧ k < 2)) : FX7_isWord T (b + 354) (iZ k) (iZ m) h = some (iZ 0, h) := by
  unfold FX7_isWord
  rw [mo_zo S.mo0, zsn]
  simp only [zJn]
  rw [isLet7_f z1 z2 g, zsn, q0, if_pos rfl, if_pos (Or.inl trivial)]
end Rp
