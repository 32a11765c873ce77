theorem mw_obji : Cond.instanceMethod objectInit ∈ TW := TWm 47 (by decide +kernel) (by decide +kernel)
theorem mw_objc : Cond.code objectInit ⟨#[0xb1]⟩ 1 none ∈ TW := TWm 48 (by decide +kernel) (by decide +kernel)
theorem mw_mathi : Cond.initialized "java/lang/Math" ∈ TW := TWm 39 (by decide +kernel) (by decide +kernel)
theorem mw_abss : Cond.static Lib.Math.abs.name ∈ TW := TWm 448 (by decide +kernel) (by decide +kernel)
theorem mw_absc : Cond.code Lib.Math.abs.name Lib.Math.abs.code 1 (some .int) ∈ TW := TWm 449 (by decide +kernel) (by decide +kernel)
theorem mw_mins : Cond.static Lib.Math.min.name ∈ TW := TWm 737 (by decide +kernel) (by decide +kernel)
theorem mw_minc : Cond.code Lib.Math.min.name Lib.Math.min.code 2 (some .int) ∈ TW := TWm 738 (by decide +kernel) (by decide +kernel)
theorem mw_maxs : Cond.static Lib.Math.max.name ∈ TW := TWm 642 (by decide +kernel) (by decide +kernel)
theorem mw_maxc : Cond.code Lib.Math.max.name Lib.Math.max.code 2 (some .int) ∈ TW := TWm 643 (by decide +kernel) (by decide +kernel)
theorem mw_acn : Cond.native arraycopyName ∈ TW := TWm 374 (by decide +kernel) (by decide +kernel)
theorem mw_acs : Cond.static arraycopyName ∈ TW := TWm 373 (by decide +kernel) (by decide +kernel)
theorem mw_aci : Cond.initialized "java/lang/System" ∈ TW := TWm 38 (by decide +kernel) (by decide +kernel)
theorem inTX0 : ∀ w ∈ wsX00, w ∈ TW := by decide +kernel
theorem inTX1 : ∀ w ∈ wsX10, w ∈ TW := by decide +kernel
theorem inTX2 : ∀ w ∈ wsX20, w ∈ TW := by decide +kernel
theorem inTX3 : ∀ w ∈ wsX30, w ∈ TW := by decide +kernel
theorem inTX4 : ∀ w ∈ wsX40, w ∈ TW := by decide +kernel
theorem inTX5 : ∀ w ∈ wsX50, w ∈ TW := by decide +kernel
theorem inTX6 : ∀ w ∈ wsX60, w ∈ TW := by decide +kernel
theorem inTX7 : ∀ w ∈ wsX70, w ∈ TW := by decide +kernel
def FUEL : Nat := 10000
def zon {ρ : Type} (x : Option Nat) (A : Option ρ) (B : Nat → Option ρ) : Option ρ := match x with
  | none => A
  | some q => B q
theorem z_on {ρ : Type} {x : Option Nat} {A : Option ρ} {B : Nat → Option ρ} {r : ρ} {G : Prop} (hf : zon x A B = some r) (k1 : x = none → A = some r → G) (k2 : ∀ q, x = some q → B q = some r → G) : G := by
  cases x with
  | none => exact k1 rfl hf
  | some q => exact k2 q rfl hf
def zb2 {α β ρ : Type} (x : Option (α × β)) (f : α → β → Option ρ) : Option ρ := match x with
  | some (a, b) => f a b
  | none => none
theorem zbind2 {α β ρ : Type} {x : Option (α × β)} {f : α → β → Option ρ} {r : ρ} (h : zb2 x f = some r) : ∃ a b, x = some (a, b) ∧ f a b = some r := by
  unfold zb2 at h
  split at h
  · exact ⟨_, _, rfl, h⟩
  · cases h
section
variable {X : zX} {cc : ByteArray} {nL : Nat} {own nm : String} {ret : Option FieldType} {fr lc : Nat} {Z : State → Prop} {kc ks : Nat} {al : Bool} {hi : Nat} {h : zH} {pc : Nat} {lv : List (Nat × Value)} {st : List Value}
theorem z_ifnull (C : zC X cc nL own nm ret fr lc) {x : Nat} {off : Int} (hd : decode cc pc = .ok (.ifnull off, 3)) (kk : zW X nL Z kc ks al hi h (pc + 3) lv st) : zW X nL Z kc ks al hi h pc lv (.ref x :: st) := fun H locs ls cells slots hR hS ha hL hc hs => lv_ifnull C.1 C.2.1 hd (kk H locs ls cells slots hR hS ha hL hc hs)
end
