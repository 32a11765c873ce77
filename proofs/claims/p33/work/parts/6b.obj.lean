/-! an object and its state, up to what can be seen: the sheet, how many states are remembered, these (the newest first), which slots are filled, with what -/
abbrev Sg : Type := (Nat → Nat → Int) × Int × (Nat → Nat → Nat → Int) × (Nat → Int) × (Nat → Nat → Nat → Int)
def sln (nxt : Int) (i : Nat) : Nat := ((nxt + 13 - i) % 14).toNat
def ObT (T : zT) (hz h : zH) (b : Nat) (n : Int) (tx : Nat → Int) (σ : Sg) : Prop := ∃ d nxt dd fl ds, St T hz h b n tx d σ.2.1 nxt dd fl ds σ.2.2.2.1 ∧ (OkD σ.1 ∧ LE σ.1 d) ∧ (0 ≤ σ.2.1 ∧ σ.2.1 ≤ 14 ∧ 0 ≤ nxt ∧ nxt < 14) ∧ (∀ i : Nat, (i : Int) < σ.2.1 → fl (sln nxt i) = 1 ∧ OkD (σ.2.2.1 i) ∧ LE (σ.2.2.1 i) (dd (sln nxt i))) ∧ ∀ i : Nat, i < 2 → (σ.2.2.2.1 i = 0 ∨ σ.2.2.2.1 i = 1) ∧ (σ.2.2.2.1 i = 1 → OkD (σ.2.2.2.2 i) ∧ LE (σ.2.2.2.2 i) (ds i))
def Ob (T : zT) (hz h : zH) (b : Nat) (σ : Sg) : Prop := ∃ n tx, (0 ≤ n ∧ n ≤ 120) ∧ ObT T hz h b n tx σ
def Rq (T : zT) (hz : zH) (b : Nat) (X : Option (Int32 × zH)) (v : Int) (σ : Sg) : Prop := ∃ h', X = some (iZ v, h') ∧ Ob T hz h' b σ
theorem qI1 : (-9999001 : Int32) = iZ (-9999001) := rfl
theorem qI2 : (-9999002 : Int32) = iZ (-9999002) := rfl
theorem qI3 : (-9999003 : Int32) = iZ (-9999003) := rfl
section Ob1
variable {T : zT} {hz h h' : zH} {b : Nat} {σ τ : Sg}
theorem Ob.ok (O : Ob T hz h b σ) : OkD σ.1 := by
  obtain ⟨n, tx, hn, d, nxt, dd, fl, ds, S, hO, -⟩ := O
  exact hO.1
theorem Ob.off (O : Ob T hz h b σ) : offO b hz h := by
  obtain ⟨n, tx, hn, d, nxt, dd, fl, ds, S, -⟩ := O
  exact S.2.2.2
theorem Ob.kept (O : Ob T hz h b σ) (f : ∀ q, b ≤ q → q < b + 354 → h' q = h q) : Ob T h' h' b σ := by
  obtain ⟨n, tx, hn, d, nxt, dd, fl, ds, S, R⟩ := O
  refine ⟨n, tx, hn, d, nxt, dd, fl, ds, ⟨S.1.kept (fun q hq => f q (by unfold cA at hq; omega) (by unfold cA at hq; omega)), trivial, S.2.2.1.kept (fun q _ q1 q2 => f q q1 q2), offO.refl⟩, R⟩
theorem Ob.base (O : Ob T hz h b σ) : Ob T h h b σ := O.kept (fun _ _ _ => rfl)
theorem rq_ok {X : Option (Except String Int32 × zH)} {K : String → zH → Option (Int32 × zH)} {v : Int} (e : X = some (.ok (iZ v), h')) (O : Ob T hz h' b σ) : Rq T hz b (zbh X (fun x2 h3 => some (x2, h3)) K) v σ := ⟨h', by rw [e, zbh_ok], O⟩
theorem rq_ex {X : Option (Except String Int32 × zH)} {K : String → zH → Option (Int32 × zH)} {E : String} {v : Int} (e : X = some (.error E, h')) (hK : K E h' = some (iZ v, h')) (O : Ob T hz h' b σ) : Rq T hz b (zbh X (fun x2 h3 => some (x2, h3)) K) v σ := ⟨h', by rw [e, zbh_er, hK], O⟩
/-- the present sheet is read -/
theorem ob_read (O : Ob T hz h b σ) {L : Nat} (hL : L < 2) : ∃ h' n w, FX6_readPresent T b (iZ L) h = some (iZ (rd σ.1 L 0 0), h') ∧ RdAt T h' (b + 336) w ∧ RdE (rd σ.1 L) w ∧ RdOk w 81 ∧ SO w ∧ SgIn w ∧ CsAt h' b n ∧ Ob T hz h' b σ := by
  obtain ⟨n, tx, hn, d, nxt, dd, fl, ds, S, hO, R⟩ := O
  have hO' := hO.2.ok hO.1
  obtain ⟨h', w0, e, A, S', N⟩ := S.rp hO' hL
  have hE := rd_of (L := L) hO' N
  rw [le_rd hO.2 hL] at hE
  refine ⟨h', n, _, ?_, A, hE, rdok hO' N, rdso hO' N, rdsg hO' N, S'.cs0, n, tx, hn, d, nxt, dd, fl, ds, S', hO, R⟩
  rw [e, hE.1]
def vab (d : Nat → Nat → Int) (w : Int) : Int := if w = 0 then d 0 0 else if w = 1 then d 0 1 else if w = 2 then gsum d (cn d) else if w = 3 then gsum d (dbt d) else if w = 4 then gsum d (dcd d) else if w = 5 then d 0 2 else if w = 6 then d 0 3 else if w = 7 then gsum d (fll d) else rd d (w - 8).toNat 0 1
theorem k_about (O : Ob T hz h b σ) {w : Int} (w1 : 0 ≤ w) (w2 : w ≤ 9) : Rq T hz b (FL_tryAbout T b (iZ w) h) (vab σ.1 w) σ := by
  have O9 := O
  obtain ⟨n, tx, hn, d, nxt, dd, fl, ds, S, ⟨hO, hl⟩, R⟩ := O
  have hO' := hl.ok hO
  have rest := fun v e => rq_ok (K := fun E4 h5 => if E4 = "java/lang/IllegalArgumentException" then some ((-9999002 : Int32), h5) else none) (v := v) (X := FX6_about T b (iZ w) h) e O9
  by_cases c : w ≤ 7
  · unfold FL_tryAbout
    refine rest _ ?_
    unfold FX6_about vab
    rw [cs_zo S.cs0, zsn, q0, q9, chkArg_t (by omega) (by omega) ⟨w1, w2⟩, zbx_ok, q1, q2, q3, q4, q5, q6, q7, cs_r3 S.cs0, zsn, sh_g0 S.sh0, zsn, zsn, sh_g1 S.sh0, zsn, zsn, countMarks_eq S.sh0 hO', zsn, zsn, countDoubtful_eq S.sh0 hO', zsn, zsn, countDecided_eq S.sh0 hO', zsn, zsn, sh_g2 S.sh0, zsn, zsn, sh_g3 S.sh0, zsn, zsn, countFull_eq S.sh0 hO', zsn, le_cnt hl hO, le_dbt hl hO, le_dcd hl hO, le_fll hl hO, hl.1 0 (by omega), hl.1 1 (by omega), hl.1 2 (by omega), hl.1 3 (by omega)]
    rcases (show w = 0 ∨ w = 1 ∨ w = 2 ∨ w = 3 ∨ w = 4 ∨ w = 5 ∨ w = 6 ∨ w = 7 by omega) with rfl | rfl | rfl | rfl | rfl | rfl | rfl | rfl
    · rw [if_pos rfl, if_pos rfl]
    · rw [if_neg (by decide), if_pos rfl, if_neg (by decide), if_pos rfl]
    · rw [if_neg (by decide), if_neg (by decide), if_pos rfl, if_neg (by decide), if_neg (by decide), if_pos rfl]
    · rw [if_neg (by decide), if_neg (by decide), if_neg (by decide), if_pos rfl, if_neg (by decide), if_neg (by decide), if_neg (by decide), if_pos rfl]
    · rw [if_neg (by decide), if_neg (by decide), if_neg (by decide), if_neg (by decide), if_pos rfl, if_neg (by decide), if_neg (by decide), if_neg (by decide), if_neg (by decide), if_pos rfl]
    · rw [if_neg (by decide), if_neg (by decide), if_neg (by decide), if_neg (by decide), if_neg (by decide), if_pos rfl, if_neg (by decide), if_neg (by decide), if_neg (by decide), if_neg (by decide), if_neg (by decide), if_pos rfl]
    · rw [if_neg (by decide), if_neg (by decide), if_neg (by decide), if_neg (by decide), if_neg (by decide), if_neg (by decide), if_pos rfl, if_neg (by decide), if_neg (by decide), if_neg (by decide), if_neg (by decide), if_neg (by decide), if_neg (by decide), if_pos rfl]
    · rw [if_neg (by decide), if_neg (by decide), if_neg (by decide), if_neg (by decide), if_neg (by decide), if_neg (by decide), if_neg (by decide), if_pos rfl, if_neg (by decide), if_neg (by decide), if_neg (by decide), if_neg (by decide), if_neg (by decide), if_neg (by decide), if_neg (by decide), if_pos rfl]
  · obtain ⟨L, hL, rfl⟩ : ∃ L : Nat, L < 2 ∧ w = 8 + L := ⟨(w - 8).toNat, by omega, by omega⟩
    obtain ⟨h', n', v, e, A, hE, -, -, -, C', O'⟩ := ob_read O9 hL
    unfold FL_tryAbout
    refine rq_ok (h' := h') ?_ O'
    unfold FX6_about vab
    rw [cs_zo S.cs0, zsn, q0, q9, chkArg_t (by omega) (by omega) ⟨w1, w2⟩, zbx_ok, q1, q2, q3, q4, q5, q6, q7, q8]
    rw [if_neg (by rw [iZ_eq (by omega) (by omega) (by omega) (by omega)]; omega), if_neg (by rw [iZ_eq (by omega) (by omega) (by omega) (by omega)]; omega), if_neg (by rw [iZ_eq (by omega) (by omega) (by omega) (by omega)]; omega), if_neg (by rw [iZ_eq (by omega) (by omega) (by omega) (by omega)]; omega), if_neg (by rw [iZ_eq (by omega) (by omega) (by omega) (by omega)]; omega), if_neg (by rw [iZ_eq (by omega) (by omega) (by omega) (by omega)]; omega), if_neg (by rw [iZ_eq (by omega) (by omega) (by omega) (by omega)]; omega), if_neg (by rw [iZ_eq (by omega) (by omega) (by omega) (by omega)]; omega), iZ_sub, show (8 : Int) + L - 8 = L by omega, e, zb2n, cs_r8 C', zsn, rd_g1 A, zsn, hE.2.1, if_neg (by omega), if_neg (by omega), if_neg (by omega), if_neg (by omega), if_neg (by omega), if_neg (by omega), if_neg (by omega), if_neg (by omega), show (L : Int).toNat = L from rfl]
theorem k_about_no (O : Ob T hz h b σ) : Rq T hz b (FL_tryAbout T b (iZ 10) h) (-9999002) σ := by
  have O9 := O
  obtain ⟨n, tx, hn, d, nxt, dd, fl, ds, S, R⟩ := O
  unfold FL_tryAbout
  refine rq_ex (E := "java/lang/IllegalArgumentException") (h' := h) ?_ (by rw [if_pos rfl, qI2]) O9
  unfold FX6_about
  rw [cs_zo S.cs0, zsn, q0, q9, chkArg_f (by omega) (by omega) (by omega) (by omega) (by omega) (by omega) (by omega), zbx_er]
def vle (d : Nat → Nat → Int) (L : Nat) (w : Int) : Int := if w = 0 then d 1 L else if w = 1 then d 2 L else if w = 2 then d 3 L else if w = 3 then rd d L 0 0 else lmax (rd d L)
theorem k_letter (O : Ob T hz h b σ) {L : Nat} (hL : L < 2) {w : Int} (w1 : 0 ≤ w) (w2 : w ≤ 4) : Rq T hz b (FL_tryLetter T b (iZ L) (iZ w) h) (vle σ.1 L w) σ := by
  have O9 := O
  obtain ⟨n, tx, hn, d, nxt, dd, fl, ds, S, ⟨hO, hl⟩, R⟩ := O
  have hO' := hl.ok hO
  obtain ⟨l1, l2, l3⟩ := hl.2.1 L hL
  unfold FL_tryLetter
  by_cases c : w ≤ 2
  · have a1 : FX1_at T (b + 4 + 1) (iZ (L : Int)) h = some (iZ (d 1 L)) := at_in (sh_n1 S.sh0) (by omega) (by omega) (by omega)
    have a2 : FX1_at T (b + 4 + 3) (iZ (L : Int)) h = some (iZ (d 2 L)) := at_in (sh_n2 S.sh0) (by omega) (by omega) (by omega)
    have a3 : FX1_at T (b + 4 + 5) (iZ (L : Int)) h = some (iZ (d 3 L)) := at_in (sh_n3 S.sh0) (by omega) (by omega) (by omega)
    refine rq_ok (h' := h) ?_ O9
    unfold FX6_letter vle
    rw [cs_zo S.cs0, zsn, chkLet_t (by omega) (by omega), zbx_ok, q0, q4, chkArg_t (by omega) (by omega) ⟨w1, w2⟩, zbx_ok, q1, q2, q3, cs_r3 S.cs0, zsn, sh_r1 S.sh0, zsn, a1, zsn, zsn, sh_r2 S.sh0, zsn, a2, zsn, zsn, sh_r3 S.sh0, zsn, a3, zsn, l1, l2, l3]
    rcases (show w = 0 ∨ w = 1 ∨ w = 2 by omega) with rfl | rfl | rfl
    · rw [if_pos rfl, if_pos rfl]
    · rw [if_neg (by decide), if_pos rfl, if_neg (by decide), if_pos rfl]
    · rw [if_neg (by decide), if_neg (by decide), if_pos rfl, if_neg (by decide), if_neg (by decide), if_pos rfl]
  · obtain ⟨h', n', v, e, A, hE, oW, sW, gW, C', O'⟩ := ob_read O9 hL
    refine rq_ok (h' := h') ?_ O'
    have lg := (long6 A oW sW).1
    rw [rde_max hE (rd_ok hO L)] at lg
    unfold FX6_letter vle
    rw [cs_zo S.cs0, zsn, chkLet_t (by omega) (by omega), zbx_ok, q0, q4, chkArg_t (by omega) (by omega) ⟨w1, w2⟩, zbx_ok, q1, q2, q3, e, zb2n, zb2n, cs_r8 C', zsn, lg, zsn]
    rcases (show w = 3 ∨ w = 4 by omega) with rfl | rfl
    · rw [if_neg (by decide), if_neg (by decide), if_neg (by decide), if_pos rfl, if_neg (by decide), if_neg (by decide), if_neg (by decide), if_pos rfl]
    · rw [if_neg (by decide), if_neg (by decide), if_neg (by decide), if_neg (by decide), if_neg (by decide), if_neg (by decide), if_neg (by decide), if_neg (by decide)]
theorem k_letter_k (O : Ob T hz h b σ) : Rq T hz b (FL_tryLetter T b (iZ 2) (iZ 0) h) (-9999001) σ := by
  have O9 := O
  obtain ⟨n, tx, hn, d, nxt, dd, fl, ds, S, R⟩ := O
  unfold FL_tryLetter
  refine rq_ex (E := "java/lang/IndexOutOfBoundsException") (h' := h) ?_ (by rw [if_pos rfl, qI1]) O9
  unfold FX6_letter
  rw [cs_zo S.cs0, zsn, chkLet_f (by omega) (by omega) (by omega), zbx_er]
theorem k_letter_w (O : Ob T hz h b σ) : Rq T hz b (FL_tryLetter T b (iZ 0) (iZ 5) h) (-9999002) σ := by
  have O9 := O
  obtain ⟨n, tx, hn, d, nxt, dd, fl, ds, S, R⟩ := O
  unfold FL_tryLetter
  refine rq_ex (E := "java/lang/IllegalArgumentException") (h' := h) ?_ (by rw [if_neg (by decide), if_pos rfl, qI2]) O9
  unfold FX6_letter
  rw [cs_zo S.cs0, zsn, chkLet_t (by omega) (by omega), zbx_ok, q0, q4, chkArg_f (by omega) (by omega) (by omega) (by omega) (by omega) (by omega) (by omega), zbx_er]
theorem k_marks (O : Ob T hz h b σ) {x y : Int} (g : inG σ.1 x y) : Rq T hz b (FL_tryMarks T b (iZ x) (iZ y) h) (cn σ.1 x y) σ := by
  have O9 := O
  obtain ⟨n, tx, hn, d, nxt, dd, fl, ds, S, ⟨hO, hl⟩, R⟩ := O
  have hO' := hl.ok hO
  have g' := (hl.ig x y).mpr g
  unfold FL_tryMarks
  refine rq_ok (h' := h) ?_ O9
  unfold FX6_marks
  rw [cs_zo S.cs0, zsn, chkCell_t S.cs0 S.sh0 hO' g', zbx_ok, cs_r3 S.cs0, zsn, marksIn_t S.sh0 hO' g', zsn, hl.cc g]
theorem k_marks_no (O : Ob T hz h b σ) {x y : Int} (x1 : -2147483648 ≤ x) (x2 : x < 2147483648) (y1 : -2147483648 ≤ y) (y2 : y < 2147483648) (g : ¬ inG σ.1 x y) : Rq T hz b (FL_tryMarks T b (iZ x) (iZ y) h) (-9999001) σ := by
  have O9 := O
  obtain ⟨n, tx, hn, d, nxt, dd, fl, ds, S, ⟨hO, hl⟩, R⟩ := O
  have hO' := hl.ok hO
  unfold FL_tryMarks
  refine rq_ex (E := "java/lang/IndexOutOfBoundsException") (h' := h) ?_ (by rw [if_pos rfl, qI1]) O9
  unfold FX6_marks
  rw [cs_zo S.cs0, zsn, chkCell_f S.cs0 S.sh0 hO' x1 x2 y1 y2 (fun z => g ((hl.ig x y).mp z)), zbx_er]
theorem k_mark (O : Ob T hz h b σ) {x y i w : Int} (g : inG σ.1 x y) (i1 : 0 ≤ i) (i2 : i < cn σ.1 x y) (w1 : 0 ≤ w) (w2 : w ≤ 7) : Rq T hz b (FL_tryMark T b (iZ x) (iZ y) (iZ i) (iZ w) h) (mval σ.1 x y i w) σ := by
  have O9 := O
  obtain ⟨n, tx, hn, d, nxt, dd, fl, ds, S, ⟨hO, hl⟩, R⟩ := O
  have hO' := hl.ok hO
  have g' := (hl.ig x y).mpr g
  have hcn := hO.cn g
  have j2 : i < cn d x y := by rw [hl.cc g]; exact i2
  have g9 := hO.g9 g
  have hp := pl_in g9 i1 (show i < 2 by omega)
  obtain ⟨m5, m6, m7, m8⟩ := hl.mm g i1 i2
  have t5 : FX1_at T (b + 4 + 9) (iZ (2 * (9 * x + y) + i)) h = some (iZ (d 5 (pl x y i))) := at_in (sh_n5 S.sh0) (by omega) (by omega) (by omega)
  have t6 : FX1_at T (b + 4 + 11) (iZ (2 * (9 * x + y) + i)) h = some (iZ (d 6 (pl x y i))) := at_in (sh_n6 S.sh0) (by omega) (by omega) (by omega)
  have t7 : FX1_at T (b + 4 + 13) (iZ (2 * (9 * x + y) + i)) h = some (iZ (d 7 (pl x y i))) := at_in (sh_n7 S.sh0) (by omega) (by omega) (by omega)
  have t8 : FX1_at T (b + 4 + 15) (iZ (2 * (9 * x + y) + i)) h = some (iZ (d 8 (pl x y i))) := at_in (sh_n8 S.sh0) (by omega) (by omega) (by omega)
  have k0 : FX3_distance T (b + 4) (iZ (2 * (9 * x + y) + i)) (iZ 0) h = some (iZ (dst d (pl x y i) 0)) := dist_eq S.sh0 hO' hp.1 hp.2 (hO'.mk g' i1 j2) (k := 0) (by omega) (by omega)
  have k1 : FX3_distance T (b + 4) (iZ (2 * (9 * x + y) + i)) (iZ 1) h = some (iZ (dst d (pl x y i) 1)) := dist_eq S.sh0 hO' hp.1 hp.2 (hO'.mk g' i1 j2) (k := 1) (by omega) (by omega)
  have eo : (if i = 0 ∨ own d x y = -9 then own d x y else 1 - own d x y) = ownof d x y i := rfl
  unfold FL_tryMark
  refine rq_ok (h' := h) ?_ O9
  unfold FX6_mark mval
  rw [cs_zo S.cs0, zsn, chkMark_t S.cs0 S.sh0 hO' g' i1 j2, zbx_ok, q0, q7, chkArg_t (by omega) (by omega) ⟨w1, w2⟩, zbx_ok, placeOf_eq, zsn, q1, q2, q3, q4, q5, q6, cs_r3 S.cs0, zsn, sh_r5 S.sh0, zsn, t5, zsn, zsn, sh_r6 S.sh0, zsn, t6, zsn, zsn, sh_r7 S.sh0, zsn, t7, zsn, zsn, sh_r8 S.sh0, zsn, t8, zsn, zsn, own_of S.sh0 hO' g' i1 (by omega), zsn, zsn, rule_eq S.sh0 hO' g' i1 (by omega), zsn, zsn, k0, zsn, zsn, k1, zsn, m5, m6, m7, m8, le_dst hl g i1 i2 (by omega), le_dst hl g i1 i2 (by omega), eo, le_rul hl g i1 (by omega), le_ownof hl g]
  rcases (show w = 0 ∨ w = 1 ∨ w = 2 ∨ w = 3 ∨ w = 4 ∨ w = 5 ∨ w = 6 ∨ w = 7 by omega) with rfl | rfl | rfl | rfl | rfl | rfl | rfl | rfl
  · rw [if_pos rfl, if_pos rfl]
  · rw [if_neg (by decide), if_pos rfl, if_neg (by decide), if_pos rfl]
  · rw [if_neg (by decide), if_neg (by decide), if_pos rfl, if_neg (by decide), if_neg (by decide), if_pos rfl]
  · rw [if_neg (by decide), if_neg (by decide), if_neg (by decide), if_pos rfl, if_neg (by decide), if_neg (by decide), if_neg (by decide), if_pos rfl]
  · rw [if_neg (by decide), if_neg (by decide), if_neg (by decide), if_neg (by decide), if_pos rfl, if_neg (by decide), if_neg (by decide), if_neg (by decide), if_neg (by decide), if_pos rfl]
  · rw [if_neg (by decide), if_neg (by decide), if_neg (by decide), if_neg (by decide), if_neg (by decide), if_pos rfl, if_neg (by decide), if_neg (by decide), if_neg (by decide), if_neg (by decide), if_neg (by decide), if_pos rfl]
  · rw [if_neg (by decide), if_neg (by decide), if_neg (by decide), if_neg (by decide), if_neg (by decide), if_neg (by decide), if_pos rfl, if_neg (by decide), if_neg (by decide), if_neg (by decide), if_neg (by decide), if_neg (by decide), if_neg (by decide)]; rfl
  · rw [if_neg (by decide), if_neg (by decide), if_neg (by decide), if_neg (by decide), if_neg (by decide), if_neg (by decide), if_neg (by decide), if_neg (by decide), if_neg (by decide), if_neg (by decide), if_neg (by decide), if_neg (by decide), if_neg (by decide)]; rfl
theorem k_mark_no (O : Ob T hz h b σ) {x y i w : Int} (x1 : -2147483648 ≤ x) (x2 : x < 2147483648) (y1 : -2147483648 ≤ y) (y2 : y < 2147483648) (i1 : -2147483648 ≤ i) (i2 : i < 2147483648) (g : ¬ (inG σ.1 x y ∧ 0 ≤ i ∧ i < cn σ.1 x y)) : Rq T hz b (FL_tryMark T b (iZ x) (iZ y) (iZ i) (iZ w) h) (-9999001) σ := by
  have O9 := O
  obtain ⟨n, tx, hn, d, nxt, dd, fl, ds, S, ⟨hO, hl⟩, R⟩ := O
  have hO' := hl.ok hO
  unfold FL_tryMark
  refine rq_ex (E := "java/lang/IndexOutOfBoundsException") (h' := h) ?_ (by rw [if_pos rfl, qI1]) O9
  unfold FX6_mark
  rw [cs_zo S.cs0, zsn, chkMark_f S.cs0 S.sh0 hO' x1 x2 y1 y2 i1 i2 (fun z => g (by have g0 := (hl.ig x y).mp z.1; rw [hl.cc g0] at z; exact ⟨g0, z.2⟩)), zbx_er]
end Ob1
