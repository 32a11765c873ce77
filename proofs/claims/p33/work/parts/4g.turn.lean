/-! the reference turns a page by a quarter; the turned Sheet and the turned page are the same -/
section Tp
variable {e d' : Nat → Nat → Int} {r : Nat → Int}
theorem turn_in (hT : TurnedD e d') {X Y : Int} (g : inG d' X Y) : inG e Y (e 0 1 - 1 - X) ∧ tX e (e 0 1 - 1 - X) = X := by
  obtain ⟨⟨a1, a2, a3, a4⟩, -⟩ := hT
  unfold inG at g ⊢
  unfold tX
  omega
theorem turn_cn (hT : TurnedD e d') {x y : Int} (g : inG e x y) : cn d' (tX e y) x = cn e x y := (hT.2.2 x y g).1
theorem OkD_turn (hO : OkD e) (hT : TurnedD e d') : OkD d' := by
  have h0 := hO.1
  obtain ⟨⟨a1, a2, a3, a4⟩, b, c⟩ := id hT
  refine ⟨by omega, ?_, ?_, fun X Y g => ?_⟩
  · obtain ⟨z1, z2, z3⟩ := b 0 (by omega)
    have := hO.2.1
    unfold lwOk at this ⊢
    omega
  · obtain ⟨z1, z2, z3⟩ := b 1 (by omega)
    have := hO.2.2.1
    unfold lwOk at this ⊢
    omega
  · obtain ⟨g2, et⟩ := turn_in hT g
    obtain ⟨k1, k2, k3, k4⟩ := hO.2.2.2 _ _ g2
    have ec := turn_cn hT g2
    obtain ⟨-, m⟩ := c _ _ g2
    rw [et] at ec m
    rw [ec]
    refine ⟨k1, k2, fun i i1 i2 => ?_, fun h2 => ?_⟩
    · obtain ⟨m5, m6, m7, m8⟩ := m i i1 i2
      have := k3 i i1 i2
      unfold mkOk at this ⊢
      rw [m5, m6, m7, m8]
      omega
    · obtain ⟨-, -, -, m8⟩ := m 0 (by omega) (by omega)
      obtain ⟨-, -, -, n8⟩ := m 1 (by omega) (by omega)
      rw [m8, n8]
      exact k4 h2
end Tp
theorem zo_kept {h h' : zH} {a c : Nat} (e : h' a = h a) : zo h' a c = zo h a c := by unfold zo; rw [e]
theorem zgr_kept {h h' : zH} {a c k : Nat} (e : h' a = h a) : zgr h' a c k = zgr h a c k := by unfold zgr; rw [zo_kept e]
theorem zgi_kept {h h' : zH} {a c k : Nat} (e : h' a = h a) : zgi h' a c k = zgi h a c k := by unfold zgi; rw [zo_kept e]
section Tr
variable {T : zT} {hz h : zH} {m p o : Nat} {d : Nat → Nat → Int} {r R : Nat → Int}
end Tr
