/-! the class, the reference, the law's beginning -/
section Nc
variable {T : zT} {hz h : zH}
theorem new_hist (T : zT) (h : zH) (a s : Nat) (hs : s = a + 1) : ∃ h' dd, (∀ {ρ : Type} (G : Nat → zH → Option ρ), ((znw h a 0 [.int 0, .int 0, .null]).bind fun h1 => zb2 (FX0_init T a s h1) G) = G (a + 243) h') ∧ HsAt T h' a 0 0 dd (fun _ => 0) ∧ ∀ q, q < a ∨ a + 242 < q → h' q = h q := by
  subst hs
  obtain ⟨h0, e0, a0, f0⟩ := znw_at h a 0 [.int 0, .int 0, .null]
  obtain ⟨h1, dd, e1, S1, f1⟩ := new_shelf14 T h0 (a + 1)
  obtain ⟨h2, e2, a2, f2⟩ := zpv_at (h := h1) ((f1 a (by omega)).trans a0) (k := 2) (Nat.le_of_ble_eq_true rfl) (.ref (a + 1))
  refine ⟨h2, dd, fun G => ?_, ⟨a2, S1.kept (fun q q1 q2 => f2 q (by omega)) (by omega)⟩, fun q hq => (f2 q (by omega)).trans ((f1 q (by omega)).trans (f0 q (by omega)))⟩
  rw [e0, zsn]
  unfold FX0_init
  rw [zo_of a0, zsn, e1, e2, zsn, zb2n]
theorem new_class (T : zT) (h : zH) (b s : Nat) (hs : s = b + 1) : ∃ h' d d1 d2 dd ds, (∀ {ρ : Type} (G : Nat → zH → Option ρ), ((znw h b 6 [.null, .int 0, .null, .null, .null, .null, .null, .null, .null, .null, .null, .null]).bind fun h1 => zb2 (FX6_init T b s h1) G) = G (b + 354) h') ∧ (CsAt h' b 0 ∧ Num T h' (b + 1) 120 (fun _ => 0) ∧ TrAt h' (b + 3) (fun _ => 0) ∧ ShAt T h' (b + 4) d ∧ Fresh d 6 6 ∧ ShAt T h' (b + 21) d1 ∧ ShAt T h' (b + 38) d2 ∧ HsAt T h' (b + 55) 0 0 dd (fun _ => 0) ∧ SfAt T h' (b + 298) 2 ds (fun _ => 0) ∧ RdAt T h' (b + 336) (fun _ _ => 0) ∧ RdAt T h' (b + 343) (fun _ _ => 0) ∧ Num T h' (b + 350) 8 (fun _ => 0) ∧ Num T h' (b + 352) 3 (fun _ => 0)) ∧ ∀ q, q < b ∨ b + 353 < q → h' q = h q := by
  subst hs
  obtain ⟨h0, e0, a0, f0⟩ := znw_at h b 6 [.null, .int 0, .null, .null, .null, .null, .null, .null, .null, .null, .null, .null]
  obtain ⟨n1, e1, N1, pp1⟩ := new_num T h0 (b + 1) (b + 2) (by omega) (m := 120) (by omega) (by omega) (z := 120) (by decide)
  have p1 : ∀ q, q < b + 1 ∨ b + 2 < q → n1 q = h0 q := fun q hq => pp1 q (by omega) (by omega)
  obtain ⟨g1, w1, b1, r1⟩ := zpv_at (h := n1) ((p1 b (by omega)).trans a0) (k := 0) (Nat.le_of_ble_eq_true rfl) (.ref (b + 1))
  obtain ⟨gg, wg, bg, rg⟩ := zpv_at (h := g1) b1 (k := 1) (Nat.le_of_ble_eq_true rfl) (.int 0)
  obtain ⟨n2, e2, N2, pp2⟩ := znw_at gg (b + 3) 5 [.int 0, .int 0, .int 0, .int 0, .int 0, .int 0, .int 0]
  have p2 : ∀ q, q < b + 3 ∨ b + 3 < q → n2 q = gg q := fun q hq => pp2 q (by omega)
  obtain ⟨g2, w2, b2, r2⟩ := zpv_at (h := n2) ((p2 b (by omega)).trans bg) (k := 2) (Nat.le_of_ble_eq_true rfl) (.ref (b + 3))
  obtain ⟨n3, d3, e3, N3, F3, p3'⟩ := new_sheet T g2 (b + 4) (b + 5) (by omega)
  have p3 : ∀ q, q < b + 4 ∨ b + 20 < q → n3 q = g2 q := fun q hq => p3' q (by omega)
  obtain ⟨g3, w3, b3, r3⟩ := zpv_at (h := n3) ((p3 b (by omega)).trans b2) (k := 3) (Nat.le_of_ble_eq_true rfl) (.ref (b + 4))
  obtain ⟨n4, d4, e4, N4, F4, p4'⟩ := new_sheet T g3 (b + 21) (b + 22) (by omega)
  have p4 : ∀ q, q < b + 21 ∨ b + 37 < q → n4 q = g3 q := fun q hq => p4' q (by omega)
  obtain ⟨g4, w4, b4, r4⟩ := zpv_at (h := n4) ((p4 b (by omega)).trans b3) (k := 4) (Nat.le_of_ble_eq_true rfl) (.ref (b + 21))
  obtain ⟨n5, d5, e5, N5, F5, p5'⟩ := new_sheet T g4 (b + 38) (b + 39) (by omega)
  have p5 : ∀ q, q < b + 38 ∨ b + 54 < q → n5 q = g4 q := fun q hq => p5' q (by omega)
  obtain ⟨g5, w5, b5, r5⟩ := zpv_at (h := n5) ((p5 b (by omega)).trans b4) (k := 5) (Nat.le_of_ble_eq_true rfl) (.ref (b + 38))
  obtain ⟨n6, dd, e6, N6, p6'⟩ := new_hist T g5 (b + 55) (b + 56) (by omega)
  have p6 : ∀ q, q < b + 55 ∨ b + 297 < q → n6 q = g5 q := fun q hq => p6' q (by omega)
  obtain ⟨g6, w6, b6, r6⟩ := zpv_at (h := n6) ((p6 b (by omega)).trans b5) (k := 6) (Nat.le_of_ble_eq_true rfl) (.ref (b + 55))
  obtain ⟨n7, ds, e7, N7, p7'⟩ := new_shelf2 T g6 (b + 298)
  have p7 : ∀ q, q < b + 298 ∨ b + 335 < q → n7 q = g6 q := fun q hq => p7' q (by omega)
  obtain ⟨g7, w7, b7, r7⟩ := zpv_at (h := n7) ((p7 b (by omega)).trans b6) (k := 7) (Nat.le_of_ble_eq_true rfl) (.ref (b + 298))
  obtain ⟨n8, e8, N8, p8'⟩ := new_read T g7 (b + 336) (b + 337) (by omega)
  have p8 : ∀ q, q < b + 336 ∨ b + 342 < q → n8 q = g7 q := fun q hq => p8' q (by omega)
  obtain ⟨g8, w8, b8, r8⟩ := zpv_at (h := n8) ((p8 b (by omega)).trans b7) (k := 8) (Nat.le_of_ble_eq_true rfl) (.ref (b + 336))
  obtain ⟨n9, e9, N9, p9'⟩ := new_read T g8 (b + 343) (b + 344) (by omega)
  have p9 : ∀ q, q < b + 343 ∨ b + 349 < q → n9 q = g8 q := fun q hq => p9' q (by omega)
  obtain ⟨g9, w9, b9, r9⟩ := zpv_at (h := n9) ((p9 b (by omega)).trans b8) (k := 9) (Nat.le_of_ble_eq_true rfl) (.ref (b + 343))
  obtain ⟨n10, e10, N10, pp10⟩ := new_num T g9 (b + 350) (b + 351) (by omega) (m := 8) (by omega) (by omega) (z := 8) (by decide)
  have p10 : ∀ q, q < b + 350 ∨ b + 351 < q → n10 q = g9 q := fun q hq => pp10 q (by omega) (by omega)
  obtain ⟨g10, w10, b10, r10⟩ := zpv_at (h := n10) ((p10 b (by omega)).trans b9) (k := 10) (Nat.le_of_ble_eq_true rfl) (.ref (b + 350))
  obtain ⟨n11, e11, N11, pp11⟩ := new_num T g10 (b + 352) (b + 353) (by omega) (m := 3) (by omega) (by omega) (z := 3) (by decide)
  have p11 : ∀ q, q < b + 352 ∨ b + 353 < q → n11 q = g10 q := fun q hq => pp11 q (by omega) (by omega)
  obtain ⟨g11, w11, b11, r11⟩ := zpv_at (h := n11) ((p11 b (by omega)).trans b10) (k := 11) (Nat.le_of_ble_eq_true rfl) (.ref (b + 352))
  have A12 : ∀ q, q ≠ b → q < b + 354 → g11 q = g11 q := fun q _ _ => rfl
  have A11 : ∀ q, q ≠ b → q < b + 352 → g11 q = g10 q := fun q q1 q2 => (A12 q q1 (by omega)).trans ((r11 q q1).trans (p11 q (by omega)))
  have K11 : ∀ q, b + 352 ≤ q → q ≤ b + 353 → g11 q = n11 q := fun q q1 q2 => (A12 q (by omega) (by omega)).trans (r11 q (by omega))
  have A10 : ∀ q, q ≠ b → q < b + 350 → g11 q = g9 q := fun q q1 q2 => (A11 q q1 (by omega)).trans ((r10 q q1).trans (p10 q (by omega)))
  have K10 : ∀ q, b + 350 ≤ q → q ≤ b + 351 → g11 q = n10 q := fun q q1 q2 => (A11 q (by omega) (by omega)).trans (r10 q (by omega))
  have A9 : ∀ q, q ≠ b → q < b + 343 → g11 q = g8 q := fun q q1 q2 => (A10 q q1 (by omega)).trans ((r9 q q1).trans (p9 q (by omega)))
  have K9 : ∀ q, b + 343 ≤ q → q ≤ b + 349 → g11 q = n9 q := fun q q1 q2 => (A10 q (by omega) (by omega)).trans (r9 q (by omega))
  have A8 : ∀ q, q ≠ b → q < b + 336 → g11 q = g7 q := fun q q1 q2 => (A9 q q1 (by omega)).trans ((r8 q q1).trans (p8 q (by omega)))
  have K8 : ∀ q, b + 336 ≤ q → q ≤ b + 342 → g11 q = n8 q := fun q q1 q2 => (A9 q (by omega) (by omega)).trans (r8 q (by omega))
  have A7 : ∀ q, q ≠ b → q < b + 298 → g11 q = g6 q := fun q q1 q2 => (A8 q q1 (by omega)).trans ((r7 q q1).trans (p7 q (by omega)))
  have K7 : ∀ q, b + 298 ≤ q → q ≤ b + 335 → g11 q = n7 q := fun q q1 q2 => (A8 q (by omega) (by omega)).trans (r7 q (by omega))
  have A6 : ∀ q, q ≠ b → q < b + 55 → g11 q = g5 q := fun q q1 q2 => (A7 q q1 (by omega)).trans ((r6 q q1).trans (p6 q (by omega)))
  have K6 : ∀ q, b + 55 ≤ q → q ≤ b + 297 → g11 q = n6 q := fun q q1 q2 => (A7 q (by omega) (by omega)).trans (r6 q (by omega))
  have A5 : ∀ q, q ≠ b → q < b + 38 → g11 q = g4 q := fun q q1 q2 => (A6 q q1 (by omega)).trans ((r5 q q1).trans (p5 q (by omega)))
  have K5 : ∀ q, b + 38 ≤ q → q ≤ b + 54 → g11 q = n5 q := fun q q1 q2 => (A6 q (by omega) (by omega)).trans (r5 q (by omega))
  have A4 : ∀ q, q ≠ b → q < b + 21 → g11 q = g3 q := fun q q1 q2 => (A5 q q1 (by omega)).trans ((r4 q q1).trans (p4 q (by omega)))
  have K4 : ∀ q, b + 21 ≤ q → q ≤ b + 37 → g11 q = n4 q := fun q q1 q2 => (A5 q (by omega) (by omega)).trans (r4 q (by omega))
  have A3 : ∀ q, q ≠ b → q < b + 4 → g11 q = g2 q := fun q q1 q2 => (A4 q q1 (by omega)).trans ((r3 q q1).trans (p3 q (by omega)))
  have K3 : ∀ q, b + 4 ≤ q → q ≤ b + 20 → g11 q = n3 q := fun q q1 q2 => (A4 q (by omega) (by omega)).trans (r3 q (by omega))
  have A2 : ∀ q, q ≠ b → q < b + 3 → g11 q = gg q := fun q q1 q2 => (A3 q q1 (by omega)).trans ((r2 q q1).trans (p2 q (by omega)))
  have K2 : ∀ q, b + 3 ≤ q → q ≤ b + 3 → g11 q = n2 q := fun q q1 q2 => (A3 q (by omega) (by omega)).trans (r2 q (by omega))
  have A1 : ∀ q, q ≠ b → q < b + 1 → g11 q = h0 q := fun q q1 q2 => (A2 q q1 (by omega)).trans ((rg q q1).trans ((r1 q q1).trans (p1 q (by omega))))
  have K1 : ∀ q, b + 1 ≤ q → q ≤ b + 2 → g11 q = n1 q := fun q q1 q2 => (A2 q (by omega) (by omega)).trans ((rg q (by omega)).trans (r1 q (by omega)))
  refine ⟨g11, d3, d4, d5, dd, ds, fun G => ?_, ⟨b11, N1.kept (K1 _ (by omega) (by omega)) (K1 _ (by omega) (by omega)), (K2 _ (by omega) (by omega)).trans N2, N3.kept (fun q q1 q2 => K3 q (by omega) (by omega)), F3, N4.kept (fun q q1 q2 => K4 q (by omega) (by omega)), N5.kept (fun q q1 q2 => K5 q (by omega) (by omega)), hs_kept N6 (fun q q1 q2 => K6 q (by omega) (by omega)), N7.kept (fun q q1 q2 => K7 q (by omega) (by omega)) (by omega), N8.kept (fun q q1 q2 => K8 q (by omega) (by omega)), N9.kept (fun q q1 q2 => K9 q (by omega) (by omega)), N10.kept (K10 _ (by omega) (by omega)) (K10 _ (by omega) (by omega)), N11.kept (K11 _ (by omega) (by omega)) (K11 _ (by omega) (by omega))⟩, fun q hq => (r11 q (by omega)).trans ((p11 q (by omega)).trans ((r10 q (by omega)).trans ((p10 q (by omega)).trans ((r9 q (by omega)).trans ((p9 q (by omega)).trans ((r8 q (by omega)).trans ((p8 q (by omega)).trans ((r7 q (by omega)).trans ((p7 q (by omega)).trans ((r6 q (by omega)).trans ((p6 q (by omega)).trans ((r5 q (by omega)).trans ((p5 q (by omega)).trans ((r4 q (by omega)).trans ((p4 q (by omega)).trans ((r3 q (by omega)).trans ((p3 q (by omega)).trans ((r2 q (by omega)).trans ((p2 q (by omega)).trans ((rg q (by omega)).trans ((r1 q (by omega)).trans ((p1 q (by omega)).trans (f0 q (by omega))))))))))))))))))))))))⟩
  rw [e0, zsn]
  unfold FX6_init
  rw [zo_of a0, zsn, q120, q8, q3]
  rw [show b + 1 + 1 = b + 2 from rfl, e1, w1, zsn]
  rw [wg, zsn]
  rw [show b + 2 + 1 = b + 3 from rfl]
  rw [e2, zsn]
  unfold FX5_init
  rw [zo_of N2, zsn, zsn, w2, zsn, show b + 3 + 1 = b + 4 from rfl, show b + 3 + 2 = b + 5 from rfl]
  rw [e3, w3, zsn, show b + 4 + 17 = b + 21 from rfl]
  rw [show b + 21 + 1 = b + 22 from rfl, e4, w4, zsn, show b + 21 + 17 = b + 38 from rfl]
  rw [show b + 38 + 1 = b + 39 from rfl, e5, w5, zsn, show b + 38 + 17 = b + 55 from rfl]
  rw [show b + 55 + 1 = b + 56 from rfl, e6, w6, zsn, show b + 55 + 243 = b + 298 from rfl]
  rw [e7, w7, zsn, show b + 298 + 4 + 17 * 2 = b + 336 from by omega]
  rw [show b + 336 + 1 = b + 337 from rfl, e8, w8, zsn, show b + 336 + 7 = b + 343 from rfl]
  rw [show b + 343 + 1 = b + 344 from rfl, e9, w9, zsn, show b + 343 + 7 = b + 350 from rfl]
  rw [show b + 350 + 1 = b + 351 from rfl, e10, w10, zsn]
  rw [show b + 351 + 1 = b + 352 from rfl]
  rw [show b + 352 + 1 = b + 353 from rfl, e11, w11, zsn]
  rw [show b + 353 + 1 = b + 354 from rfl]
  rw [zb2n]
end Nc
