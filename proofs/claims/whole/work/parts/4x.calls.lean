/-! how the law compares a call of the class with the reference's -/
def OutA (T : zT) (h : zH) (o : Nat) : Prop := ∃ f, h o = some (.inl (T.2.1, 1, .inr (.inl f)))
theorem out_set {T : zT} {h : zH} {o : Nat} (hA : OutA T h o) (x : Int64) : ∃ h', zls T h o 0 x = some h' ∧ zli T h' o 0 = some x ∧ OutA T h' o ∧ ∀ q, q ≠ o → h' q = h q := by
  obtain ⟨f, hf⟩ := hA
  refine ⟨va_up h o (some (.inl (T.2.1, 1, .inr (.inl (vp_updL f (0 : Int32).toNatClampNeg x))))), ?_, ?_, ⟨_, va_up_self _ _ _⟩, fun q hq => va_up_ne _ _ hq⟩
  · unfold zls
    rw [hf]
    show (if T.2.1 = T.2.1 ∧ zin 0 1 then _ else _) = _
    rw [if_pos ⟨rfl, (iZ_in (a := 0) (by omega) (by omega)).mpr ⟨by omega, by omega⟩⟩]
  · unfold zli
    rw [va_up_self]
    show (if T.2.1 = T.2.1 ∧ zin 0 1 then some (vp_updL f (0 : Int32).toNatClampNeg x (0 : Int32).toNatClampNeg) else none) = _
    rw [if_pos ⟨rfl, (iZ_in (a := 0) (by omega) (by omega)).mpr ⟨by omega, by omega⟩⟩]
    unfold vp_updL
    rw [if_pos rfl]
theorem out_kept {T : zT} {h h' : zH} {o : Nat} (hA : OutA T h o) (e : h' o = h o) : OutA T h' o := by
  obtain ⟨f, hf⟩ := hA
  exact ⟨f, e.trans hf⟩
theorem thrown_eq {T : zT} {h : zH} {m : Nat} {v : Nat → Int} (hM : MoAt h m v) : FX7_thrown T m h = some (iZ (v 0)) := by
  unfold FX7_thrown
  rw [mo_zo hM, zsn, mo_g0 hM, zsn]
/-- the compared end of a round -/
theorem seg_ok {T : zT} {ρ : Type} {m o : Nat} {J13 : zH → Option ρ} {h2 : zH} {c val : Int} (hc : 0 ≤ c ∧ c < 10) (hv : -2147483648 ≤ val ∧ val < 2147483648) (ht : FX7_thrown T m h2 = some (iZ c)) (hz : c = 0 → zli T h2 o 0 = some (lZ val)) : ((FX7_thrown T m h2).bind fun x24 => if x24 = iZ c then (zJ (fun (_ : Unit) => J13 h2) (fun J25 => if iZ c = 0 then ((zli T h2 o 0).bind fun x26 => if (lg_cmp x26 (iZ val).toInt64) = 0 then (J25 ()) else none) else (J25 ()))) else none) = J13 h2 := by
  rw [ht, zsn, if_pos rfl, zJn, q0]
  by_cases e : c = 0
  · rw [if_pos (by rw [e]), ← q0, hz e, zsn, iZ_long hv.1 hv.2, if_pos (lg_eq0.mpr rfl)]
  · rw [if_neg (by rw [iZ_eq (by omega) (by omega) (by omega) (by omega)]; exact e)]
