/-! the present sheet is read: by the class, by the reference -/
section Lr
variable {T : zT} {h : zH} {b o : Nat} {n : Int} {d w : Nat → Nat → Int} {v r bg sg wo : Nat → Int}
theorem readPresent_eq (B : Bs T h b o n d v r) (hR : RdAt T h (b + 336) w) (hI : RdIn w) {L : Nat} (hL : L < 2) : ∃ h' w0, FX6_readPresent T b (iZ L) h = some (iZ (wall d L (d 3 L) w0 (nL d (d 3 L)) 0 0), h') ∧ RdAt T h' (b + 336) (wall d L (d 3 L) w0 (nL d (d 3 L))) ∧ offR (b + 336) h h' ∧ RdNew w0 := by
  obtain ⟨a1, a2, a3, a4, a5, a6, a7, a8⟩ := B
  obtain ⟨h', w0, e, R1, f1, N1⟩ := readLetter_eq hR hI a2 a3 (by omega) hL
  refine ⟨h', w0, ?_, R1, f1, N1⟩
  unfold FX6_readPresent
  rw [cs_zo a1, zsn, cs_r8 a1, zsn, cs_r3 a1, zsn, zsn, sh_g3 a2, zsn, e, zb2n]
theorem layNow_eq {m : Nat} (H : WH T h m (m + 3) r v bg sg wo) (hP : Pg d r) (hO : OkD d) {L : Nat} (hL : L < 2) (hN : RdNew w) : ∃ h' v' bg' sg' wo', FX7_layNow T m (iZ L) h = some (iZ (wall d L (d 3 L) w (nL d (d 3 L)) 0 0), h') ∧ WH T h' m (m + 3) r v' bg' sg' wo' ∧ Wds (wall d L (d 3 L) w (nL d (d 3 L))) v' bg' sg' wo' ∧ (∀ j, j < 15 → v' j = v j) ∧ offW m h h' := by
  obtain ⟨h', v', bg', sg', wo', e, H1, W1, lo, f⟩ := layWords_eq H (by omega) (by omega) (by omega) (by omega) hP hO hL hN
  refine ⟨h', v', bg', sg', wo', ?_, H1, W1, lo, f⟩
  have g3 : zai T h (m + 3) (iZ 3) = some (iZ (d 0 3)) := by rw [zai_p H.2.2.2.2 (by omega) (by omega), ← hP.1.g]; rfl
  unfold FX7_layNow
  rw [mo_zo H.1, zsn, mo_r5 H.1, zsn, zsn, q3, g3, zsn, e, zb2n]
end Lr
