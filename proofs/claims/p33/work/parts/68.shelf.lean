section N8
variable {T : zT} {hz h : zH}
/-! the shelf of 14 sheets -/
set_option maxRecDepth 20000 in
set_option maxHeartbeats 8000000 in
theorem new_shelf14 (T : zT) (h : zH) (S : Nat) : ∃ h' dd, (∀ {ρ : Type} (G : Nat → zH → Option ρ), ((znw h S 4 [.null, .null]).bind fun h1 => zb2 (FX4_init14 T S (S + 1) h1) G) = G (S + 4 + 17 * 14) h') ∧ SfAt T h' S 14 dd (fun _ => 0) ∧ ∀ q, q < S ∨ S + 4 + 17 * 14 ≤ q → h' q = h q := by
  obtain ⟨h0, e0, a0, f0⟩ := znw_at h S 4 [.null, .null]
  obtain ⟨k1, k2, k3, s0, u1, u2, u3, u4, P0, p0⟩ := ps_0 T h0 S a0 (m := 14) (by omega) (by omega) (z := 14) (by decide)
  obtain ⟨s1, w1, P1, p1⟩ := ps_step P0 (by omega) (by omega) (S + 1 + 2 + 1) ((S + 1 + 2 + 1) + 1) (by omega) rfl
  obtain ⟨c0, l0⟩ := ps_ln P0
  obtain ⟨s2, w2, P2, p2⟩ := ps_step P1 (by omega) (by omega) ((S + 1 + 2 + 1) + 17) (((S + 1 + 2 + 1) + 17) + 1) (by omega) rfl
  obtain ⟨c1, l1⟩ := ps_ln P1
  obtain ⟨s3, w3, P3, p3⟩ := ps_step P2 (by omega) (by omega) (((S + 1 + 2 + 1) + 17) + 17) ((((S + 1 + 2 + 1) + 17) + 17) + 1) (by omega) rfl
  obtain ⟨c2, l2⟩ := ps_ln P2
  obtain ⟨s4, w4, P4, p4⟩ := ps_step P3 (by omega) (by omega) ((((S + 1 + 2 + 1) + 17) + 17) + 17) (((((S + 1 + 2 + 1) + 17) + 17) + 17) + 1) (by omega) rfl
  obtain ⟨c3, l3⟩ := ps_ln P3
  obtain ⟨s5, w5, P5, p5⟩ := ps_step P4 (by omega) (by omega) (((((S + 1 + 2 + 1) + 17) + 17) + 17) + 17) ((((((S + 1 + 2 + 1) + 17) + 17) + 17) + 17) + 1) (by omega) rfl
  obtain ⟨c4, l4⟩ := ps_ln P4
  obtain ⟨s6, w6, P6, p6⟩ := ps_step P5 (by omega) (by omega) ((((((S + 1 + 2 + 1) + 17) + 17) + 17) + 17) + 17) (((((((S + 1 + 2 + 1) + 17) + 17) + 17) + 17) + 17) + 1) (by omega) rfl
  obtain ⟨c5, l5⟩ := ps_ln P5
  obtain ⟨s7, w7, P7, p7⟩ := ps_step P6 (by omega) (by omega) (((((((S + 1 + 2 + 1) + 17) + 17) + 17) + 17) + 17) + 17) ((((((((S + 1 + 2 + 1) + 17) + 17) + 17) + 17) + 17) + 17) + 1) (by omega) rfl
  obtain ⟨c6, l6⟩ := ps_ln P6
  obtain ⟨s8, w8, P8, p8⟩ := ps_step P7 (by omega) (by omega) ((((((((S + 1 + 2 + 1) + 17) + 17) + 17) + 17) + 17) + 17) + 17) (((((((((S + 1 + 2 + 1) + 17) + 17) + 17) + 17) + 17) + 17) + 17) + 1) (by omega) rfl
  obtain ⟨c7, l7⟩ := ps_ln P7
  obtain ⟨s9, w9, P9, p9⟩ := ps_step P8 (by omega) (by omega) (((((((((S + 1 + 2 + 1) + 17) + 17) + 17) + 17) + 17) + 17) + 17) + 17) ((((((((((S + 1 + 2 + 1) + 17) + 17) + 17) + 17) + 17) + 17) + 17) + 17) + 1) (by omega) rfl
  obtain ⟨c8, l8⟩ := ps_ln P8
  obtain ⟨s10, w10, P10, p10⟩ := ps_step P9 (by omega) (by omega) ((((((((((S + 1 + 2 + 1) + 17) + 17) + 17) + 17) + 17) + 17) + 17) + 17) + 17) (((((((((((S + 1 + 2 + 1) + 17) + 17) + 17) + 17) + 17) + 17) + 17) + 17) + 17) + 1) (by omega) rfl
  obtain ⟨c9, l9⟩ := ps_ln P9
  obtain ⟨s11, w11, P11, p11⟩ := ps_step P10 (by omega) (by omega) (((((((((((S + 1 + 2 + 1) + 17) + 17) + 17) + 17) + 17) + 17) + 17) + 17) + 17) + 17) ((((((((((((S + 1 + 2 + 1) + 17) + 17) + 17) + 17) + 17) + 17) + 17) + 17) + 17) + 17) + 1) (by omega) rfl
  obtain ⟨c10, l10⟩ := ps_ln P10
  obtain ⟨s12, w12, P12, p12⟩ := ps_step P11 (by omega) (by omega) ((((((((((((S + 1 + 2 + 1) + 17) + 17) + 17) + 17) + 17) + 17) + 17) + 17) + 17) + 17) + 17) (((((((((((((S + 1 + 2 + 1) + 17) + 17) + 17) + 17) + 17) + 17) + 17) + 17) + 17) + 17) + 17) + 1) (by omega) rfl
  obtain ⟨c11, l11⟩ := ps_ln P11
  obtain ⟨s13, w13, P13, p13⟩ := ps_step P12 (by omega) (by omega) (((((((((((((S + 1 + 2 + 1) + 17) + 17) + 17) + 17) + 17) + 17) + 17) + 17) + 17) + 17) + 17) + 17) ((((((((((((((S + 1 + 2 + 1) + 17) + 17) + 17) + 17) + 17) + 17) + 17) + 17) + 17) + 17) + 17) + 17) + 1) (by omega) rfl
  obtain ⟨c12, l12⟩ := ps_ln P12
  obtain ⟨s14, w14, P14, p14⟩ := ps_step P13 (by omega) (by omega) ((((((((((((((S + 1 + 2 + 1) + 17) + 17) + 17) + 17) + 17) + 17) + 17) + 17) + 17) + 17) + 17) + 17) + 17) (((((((((((((((S + 1 + 2 + 1) + 17) + 17) + 17) + 17) + 17) + 17) + 17) + 17) + 17) + 17) + 17) + 17) + 17) + 1) (by omega) rfl
  obtain ⟨c13, l13⟩ := ps_ln P13
  obtain ⟨c14, l14⟩ := ps_ln P14
  obtain ⟨dd, hd⟩ := ps_all P14
  refine ⟨s14, dd, fun G => ?_, hd, fun q hq => (p14 q (by omega)).trans ((p13 q (by omega)).trans ((p12 q (by omega)).trans ((p11 q (by omega)).trans ((p10 q (by omega)).trans ((p9 q (by omega)).trans ((p8 q (by omega)).trans ((p7 q (by omega)).trans ((p6 q (by omega)).trans ((p5 q (by omega)).trans ((p4 q (by omega)).trans ((p3 q (by omega)).trans ((p2 q (by omega)).trans ((p1 q (by omega)).trans ((p0 q (by omega)).trans (f0 q (by omega))))))))))))))))⟩
  rw [e0, zsn]
  unfold FX4_init14
  rw [zo_of a0, zsn, q14, q0, if_neg (show ¬ iZ 14 ≤ iZ 0 by decide), u1, zsn, u2, zsn, u3, u4, zsn]
  rw [c0, zsn, l0, zsn]
  rw [if_neg (by decide), zsn, w1 _ _ (by decide)]
  rw [c1, zsn, l1, zsn]
  rw [q1]
  rw [iZ_add]
  rw [if_neg (by decide), zsn, w2 _ _ (by decide)]
  rw [c2, zsn, l2, zsn]
  rw [iZ_add]
  rw [if_neg (by decide), zsn, w3 _ _ (by decide)]
  rw [c3, zsn, l3, zsn]
  rw [iZ_add]
  rw [if_neg (by decide), zsn, w4 _ _ (by decide)]
  rw [c4, zsn, l4, zsn]
  rw [iZ_add]
  rw [if_neg (by decide), zsn, w5 _ _ (by decide)]
  rw [c5, zsn, l5, zsn]
  rw [iZ_add]
  rw [if_neg (by decide), zsn, w6 _ _ (by decide)]
  rw [c6, zsn, l6, zsn]
  rw [iZ_add]
  rw [if_neg (by decide), zsn, w7 _ _ (by decide)]
  rw [c7, zsn, l7, zsn]
  rw [iZ_add]
  rw [if_neg (by decide), zsn, w8 _ _ (by decide)]
  rw [c8, zsn, l8, zsn]
  rw [iZ_add]
  rw [if_neg (by decide), zsn, w9 _ _ (by decide)]
  rw [c9, zsn, l9, zsn]
  rw [iZ_add]
  rw [if_neg (by decide), zsn, w10 _ _ (by decide)]
  rw [c10, zsn, l10, zsn]
  rw [iZ_add]
  rw [if_neg (by decide), zsn, w11 _ _ (by decide)]
  rw [c11, zsn, l11, zsn]
  rw [iZ_add]
  rw [if_neg (by decide), zsn, w12 _ _ (by decide)]
  rw [c12, zsn, l12, zsn]
  rw [iZ_add]
  rw [if_neg (by decide), zsn, w13 _ _ (by decide)]
  rw [c13, zsn, l13, zsn]
  rw [iZ_add]
  rw [if_neg (by decide), zsn, w14 _ _ (by decide)]
  rw [c14, zsn, l14, zsn]
  rw [iZ_add, if_pos (by decide), zb2n]
end N8
