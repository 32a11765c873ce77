/-! the present sheet is read within the state; a loop that gathers -/
def accu (g : Nat → Int → Int) : Nat → Int → Int
  | 0, s => s
  | n + 1, s => g n (accu g n s)
theorem loop_acc {ρ : Type} {L : Nat → Int32 → Int32 → Option ρ} {K : Int32 → Option ρ} {g : Nat → Int → Int} {P : Nat → Int → Prop} {n : Nat} (hn : n < 9999) (hs : ∀ (k : Nat) (s : Int) (i : Nat), i < n → P i s → L (k + 1) (iZ s) (iZ i) = L k (iZ (g i s)) (iZ (i + 1)) ∧ P (i + 1) (g i s)) (he : ∀ (k : Nat) (s : Int), P n s → L (k + 1) (iZ s) (iZ n) = K (iZ s)) {s : Int} (h0 : P 0 s) : L FUEL (iZ s) (iZ 0) = K (iZ (accu g n s)) ∧ P n (accu g n s) := by
  have key : ∀ i : Nat, i ≤ n → ∃ k, k + i = FUEL ∧ L FUEL (iZ s) (iZ 0) = L k (iZ (accu g i s)) (iZ i) ∧ P i (accu g i s) := by
    intro i
    induction i with
    | zero => intro _; exact ⟨FUEL, rfl, rfl, h0⟩
    | succ i ih =>
      intro hi
      obtain ⟨k, e1, e2, e3⟩ := ih (by omega)
      obtain ⟨k', rfl⟩ : ∃ k', k = k' + 1 := ⟨k - 1, by unfold FUEL at e1; omega⟩
      obtain ⟨a1, a2⟩ := hs k' _ i (by omega) e3
      refine ⟨k', by omega, ?_, a2⟩
      rw [e2, a1]
      rfl
  obtain ⟨k, e1, e2, e3⟩ := key n (by omega)
  obtain ⟨k', rfl⟩ : ∃ k', k = k' + 1 := ⟨k - 1, by unfold FUEL at e1; omega⟩
  exact ⟨e2.trans (he k' _ e3), e3⟩
section Rp
variable {T : zT} {hz h : zH} {b o : Nat} {n : Int} {tx : Nat → Int} {d : Nat → Nat → Int} {cnt nxt : Int} {dd : Nat → Nat → Nat → Int} {fl : Nat → Int} {ds : Nat → Nat → Nat → Int} {fs v tx7 r D kp kb : Nat → Int} {x : Int64}
theorem rdok {w : Nat → Nat → Int} (hO : OkD d) {L : Nat} (hN : RdNew w) : RdOk (wall d L (d 3 L) w (nL d (d 3 L))) 81 := by
  have h9 := nLP hO (d 3 L)
  exact (RdOk_all hO hN.ok _ (Nat.le_refl _)).mono (by omega)
theorem rdso {w : Nat → Nat → Int} (hO : OkD d) {L : Nat} (hN : RdNew w) : SO (wall d L (d 3 L) w (nL d (d 3 L))) := SO_all hO hN.ok (SO_new hN) _ (Nat.le_refl _)
theorem RdOk.rin {w : Nat → Nat → Int} {n : Int} (h : RdOk w n) : RdIn w := by
  obtain ⟨a1, a2, a3, a4, a5, a6, a7, a8, a9, b1, b2, b3, b4⟩ := h
  exact ⟨a7, a8, a9, b1, b2, b3⟩
theorem St.rp (S : St T hz h b n tx d cnt nxt dd fl ds fs) (hO : OkD d) {L : Nat} (hL : L < 2) : ∃ h' w0, FX6_readPresent T b (iZ L) h = some (iZ (wall d L (d 3 L) w0 (nL d (d 3 L)) 0 0), h') ∧ RdAt T h' (b + 336) (wall d L (d 3 L) w0 (nL d (d 3 L))) ∧ St T hz h' b n tx d cnt nxt dd fl ds fs ∧ RdNew w0 := by
  have S3 : ∃ w, RdAt T h (b + 336) w ∧ RdIn w := S.2.2.1 3 (by omega)
  obtain ⟨w, hR, hI⟩ := S3
  obtain ⟨h', w0, e, R1, f1, N1⟩ := readLetter_eq hR hI S.sh0 hO (by omega) hL
  refine ⟨h', w0, ?_, R1, S.sc (i := 3) (by omega) ⟨_, R1, (rdok hO N1).rin⟩ (fun q hq => f1 q hq), N1⟩
  unfold FX6_readPresent
  rw [cs_zo S.cs0, zsn, cs_r8 S.cs0, zsn, cs_r3 S.cs0, zsn, zsn, sh_g3 S.sh0, zsn, e, zb2n]
theorem chkWord_t {w : Nat → Nat → Int} {m : Int} (hC : CsAt h b n) (hR : RdAt T h (b + 336) w) (hW : RdOk w 81) (i1 : 0 ≤ m) (i2 : m < w 0 0) : FX6_checkWord T b (iZ m) h = some (.ok (), h) := by
  unfold FX6_checkWord
  rw [cs_zo hC, zsn, cs_r8 hC, zsn, hasNum_t hR hW i1 i2, zsn, q0, if_neg (by decide)]
theorem chkWord_f {w : Nat → Nat → Int} {m : Int} (hC : CsAt h b n) (hR : RdAt T h (b + 336) w) (hW : RdOk w 81) (i1 : -2147483648 ≤ m) (i2 : m < 2147483648) (g : ¬ (0 ≤ m ∧ m < w 0 0)) : FX6_checkWord T b (iZ m) h = some (.error "java/lang/IndexOutOfBoundsException", h) := by
  unfold FX6_checkWord
  rw [cs_zo hC, zsn, cs_r8 hC, zsn, hasNum_f hR hW i1 i2 g, zsn, q0, if_pos rfl]
end Rp
