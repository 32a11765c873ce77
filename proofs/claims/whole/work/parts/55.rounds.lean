/-! what holds between the calls; what a round of the law does -/
def Rel (n : Int) (tx : Nat → Int) (d : Nat → Nat → Int) (cnt nxt : Int) (dd : Nat → Nat → Nat → Int) (fl : Nat → Int) (ds : Nat → Nat → Nat → Int) (fs v tx7 r D kp kb : Nat → Int) : Prop := (0 ≤ n ∧ n ≤ 120 ∧ v 2 = n ∧ ∀ j : Nat, (j : Int) < n → tx7 j = tx j ∧ 0 ≤ tx j ∧ tx j ≤ 255) ∧ (OkD d ∧ Pg d r) ∧ (v 9 = cnt ∧ DiR cnt nxt dd fl D) ∧ ∀ i : Nat, i < 2 → (fs i = 0 ∨ fs i = 1) ∧ kb i = fs i ∧ (fs i = 1 → OkD (ds i) ∧ Pg (ds i) (fun q => kp (739 * i + q)))
def Fin (T : zT) (h : zH) (b o : Nat) (c : Int) (x : Int64) : Prop := ∃ n tx d cnt nxt dd fl ds fs v tx7 r D kp kb, St T h b o n tx d cnt nxt dd fl ds fs v tx7 r D kp kb x ∧ Rel n tx d cnt nxt dd fl ds fs v tx7 r D kp kb ∧ v 0 = c
def Inv (T : zT) (h : zH) (b o : Nat) : Prop := ∃ c x, Fin T h b o c x
def Rnd (T : zT) (b o : Nat) (R1 : Option (Int32 × zH)) (F2 : zH → Option (Int32 × zH)) : Prop := ∃ c val h1 h2 x, R1 = some (iZ c, h1) ∧ F2 h1 = some (iZ val, h2) ∧ (0 ≤ c ∧ c < 10) ∧ (-2147483648 ≤ val ∧ val < 2147483648) ∧ Fin T h2 b o c x ∧ (c = 0 → x = lZ val)
def Rn2 (T : zT) (b o : Nat) (R1 : Option (Int32 × zH)) (F2 : zH → Option (Int32 × zH)) : Prop := ∃ z h1 h2, R1 = some (z, h1) ∧ F2 h1 = some (z, h2) ∧ Inv T h2 b o
section Ro
variable {T : zT} {h h' : zH} {b o : Nat} {n : Int} {tx : Nat → Int} {d : Nat → Nat → Int} {cnt nxt : Int} {dd : Nat → Nat → Nat → Int} {fl : Nat → Int} {ds : Nat → Nat → Nat → Int} {fs v v' tx7 r D kp kb : Nat → Int} {x : Int64}
theorem Rel.vv (R : Rel n tx d cnt nxt dd fl ds fs v tx7 r D kp kb) (e2 : v' 2 = v 2) (e9 : v' 9 = v 9) : Rel n tx d cnt nxt dd fl ds fs v' tx7 r D kp kb := by
  obtain ⟨⟨a1, a2, a3, a4⟩, a5, ⟨a6, a7⟩, a8⟩ := R
  exact ⟨⟨a1, a2, e2.trans a3, a4⟩, a5, ⟨e9.trans a6, a7⟩, a8⟩
theorem rnd_ok {F6 : zH → Option (Except String Int32 × zH)} {F2 : zH → Option (Int32 × zH)} {K : String → zH → Option (Int32 × zH)} {val : Int} (hv : -2147483648 ≤ val ∧ val < 2147483648) (e6 : F6 h = some (.ok (iZ val), h')) (S : St T h' b o n tx d cnt nxt dd fl ds fs v tx7 r D kp kb x) (e7 : ∀ h1, St T h1 b o n tx d cnt nxt dd fl ds fs v tx7 r D kp kb (lZ val) → ∃ h2, F2 h1 = some (iZ val, h2) ∧ Fin T h2 b o 0 (lZ val)) : Rnd T b o (zbh (F6 h) (fun x2 h3 => (zls T h3 o 0 x2.toInt64).bind fun h4 => some (0, h4)) K) F2 := by
  obtain ⟨h1, g1, o1, f1⟩ := out_put S.2.2.2.1 (lZ val)
  obtain ⟨h2, g2, hF⟩ := e7 h1 (S.out o1 f1)
  refine ⟨0, val, h1, h2, lZ val, ?_, g2, by omega, hv, hF, fun _ => rfl⟩
  rw [e6, zbh_ok, iZ_long hv.1 hv.2, g1, zsn, q0]
theorem rnd_ex {F6 : zH → Option (Except String Int32 × zH)} {F2 : zH → Option (Int32 × zH)} {G : Int32 → zH → Option (Int32 × zH)} {K : String → zH → Option (Int32 × zH)} {E : String} {c : Int} (hc : 1 ≤ c ∧ c < 10) (e6 : F6 h = some (.error E, h')) (hK : K E h' = some (iZ c, h')) (e7 : ∃ val h2, (-2147483648 ≤ val ∧ val < 2147483648) ∧ F2 h' = some (iZ val, h2) ∧ Fin T h2 b o c x) : Rnd T b o (zbh (F6 h) G K) F2 := by
  obtain ⟨val, h2, hv, g2, hF⟩ := e7
  refine ⟨c, val, h', h2, x, ?_, g2, by omega, hv, hF, fun z => by omega⟩
  rw [e6, zbh_er, hK]
theorem fin_mo (S : St T h b o n tx d cnt nxt dd fl ds fs v tx7 r D kp kb x) (R : Rel n tx d cnt nxt dd fl ds fs v tx7 r D kp kb) {c : Int} (M : MoAt h' (b + 354) v') (f : ∀ q, q ≠ b + 354 → h' q = h q) (e0 : v' 0 = c) (e2 : v' 2 = v 2) (e9 : v' 9 = v 9) : Fin T h' b o c x := ⟨_, _, _, _, _, _, _, _, _, _, _, _, _, _, _, S.mo M f, R.vv e2 e9, e0⟩
/-- the reference refuses -/
theorem St.ref (S : St T h b o n tx d cnt nxt dd fl ds fs v tx7 r D kp kb x) {c : Int} (c1 : 0 ≤ c) (c2 : c < 10) : ∃ h', FX7_refused T (b + 354) (iZ c) h = some (iZ (if c = 0 then 0 else 1), h') ∧ St T h' b o n tx d cnt nxt dd fl ds fs (upZ v 0 c) tx7 r D kp kb x := by
  obtain ⟨h2, e2, M2, f2⟩ := refused_eq (T := T) S.2.1.1 c1 c2
  exact ⟨h2, e2, S.mo M2 f2⟩
theorem Rel.ref (R : Rel n tx d cnt nxt dd fl ds fs v tx7 r D kp kb) (c : Int) : Rel n tx d cnt nxt dd fl ds fs (upZ v 0 c) tx7 r D kp kb := R.vv (upZ_ne _ _ (by decide)) (upZ_ne _ _ (by decide))
theorem fin_ref {c : Int} (S : St T h b o n tx d cnt nxt dd fl ds fs (upZ v 0 c) tx7 r D kp kb x) (R : Rel n tx d cnt nxt dd fl ds fs v tx7 r D kp kb) : Fin T h b o c x := ⟨_, _, _, _, _, _, _, _, _, _, _, _, _, _, _, S, R.ref c, upZ_self _ _ _⟩
/-- the reference refuses: c is not 0 -/
theorem St.no (S : St T h b o n tx d cnt nxt dd fl ds fs v tx7 r D kp kb x) (R : Rel n tx d cnt nxt dd fl ds fs v tx7 r D kp kb) {c : Int} (c1 : 1 ≤ c) (c2 : c < 10) : ∃ h', FX7_refused T (b + 354) (iZ c) h = some (iZ 1, h') ∧ Fin T h' b o c x := by
  obtain ⟨h2, e2, S2⟩ := S.ref (c := c) (by omega) c2
  rw [if_neg (by omega)] at e2
  exact ⟨h2, e2, fin_ref S2 R⟩
theorem St.yes (S : St T h b o n tx d cnt nxt dd fl ds fs v tx7 r D kp kb x) : ∃ h', FX7_refused T (b + 354) (iZ 0) h = some (iZ 0, h') ∧ St T h' b o n tx d cnt nxt dd fl ds fs (upZ v 0 0) tx7 r D kp kb x := by
  obtain ⟨h2, e2, S2⟩ := S.ref (c := 0) (by omega) (by omega)
  rw [if_pos rfl] at e2
  exact ⟨h2, e2, S2⟩
theorem St.cs0 (S : St T h b o n tx d cnt nxt dd fl ds fs v tx7 r D kp kb x) : CsAt h b n := S.1.1
theorem St.tx0 (S : St T h b o n tx d cnt nxt dd fl ds fs v tx7 r D kp kb x) : Num T h (b + 1) 120 tx := S.1.2.1
theorem St.sh0 (S : St T h b o n tx d cnt nxt dd fl ds fs v tx7 r D kp kb x) : ShAt T h (b + 4) d := S.1.2.2.1
theorem St.hs0 (S : St T h b o n tx d cnt nxt dd fl ds fs v tx7 r D kp kb x) : HsAt T h (b + 55) cnt nxt dd fl := S.1.2.2.2.1
theorem St.sf0 (S : St T h b o n tx d cnt nxt dd fl ds fs v tx7 r D kp kb x) : SfAt T h (b + 298) 2 ds fs := S.1.2.2.2.2
theorem St.mo0 (S : St T h b o n tx d cnt nxt dd fl ds fs v tx7 r D kp kb x) : MoAt h (b + 354) v := S.2.1.1
theorem St.t70 (S : St T h b o n tx d cnt nxt dd fl ds fs v tx7 r D kp kb x) : Arr T h (b + 354 + 1) 120 tx7 := S.2.1.2.1
theorem St.pg0 (S : St T h b o n tx d cnt nxt dd fl ds fs v tx7 r D kp kb x) : Arr T h (b + 354 + 3) 739 r := S.2.1.2.2.1
theorem St.di0 (S : St T h b o n tx d cnt nxt dd fl ds fs v tx7 r D kp kb x) : Arr T h (b + 354 + 6) 10346 D := S.2.1.2.2.2.1
theorem St.kp0 (S : St T h b o n tx d cnt nxt dd fl ds fs v tx7 r D kp kb x) : Arr T h (b + 354 + 7) 1478 kp := S.2.1.2.2.2.2.1
theorem St.kb0 (S : St T h b o n tx d cnt nxt dd fl ds fs v tx7 r D kp kb x) : BAr T h (b + 354 + 8) 2 kb := S.2.1.2.2.2.2.2
theorem St.bs (S : St T h b o n tx d cnt nxt dd fl ds fs v tx7 r D kp kb x) (R : Rel n tx d cnt nxt dd fl ds fs v tx7 r D kp kb) : Bs T h b o n d v r := ⟨S.1.1, S.1.2.2.1, R.2.1.1, S.2.1.1, S.2.1.2.2.1, R.2.1.2, ⟨_, S.2.2.2.1.choose_spec.1⟩, S.2.2.2.2⟩
end Ro
