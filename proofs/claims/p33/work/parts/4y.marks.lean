/-! one call as a pattern: marks (code 6 of the law) -/
theorem zbx_ok {α β : Type} (x : α) (h : zH) (G : α → zH → Option (Except String β × zH)) : zbx (some (.ok x, h)) G = G x h := by unfold zbx; rfl
theorem zbx_er {α β : Type} (E : String) (h : zH) (G : α → zH → Option (Except String β × zH)) : zbx (some (.error E, h)) G = some (.error E, h) := by unfold zbx; rfl
theorem zbh_ok {α ρ : Type} (x : α) (h : zH) (G : α → zH → Option ρ) (K : String → zH → Option ρ) : zbh (some (.ok x, h)) G K = G x h := by unfold zbh; rfl
theorem zbh_er {α ρ : Type} (E : String) (h : zH) (G : α → zH → Option ρ) (K : String → zH → Option ρ) : zbh (some (.error E, h)) G K = K E h := by unfold zbh; rfl