/-! call: runScript; the commands 6 to 9, and no command -/
section Ru
variable {T : zT} {hz h : zH} {b o : Nat} {n : Int} {tx : Nat → Int} {d : Nat → Nat → Int} {cnt nxt : Int} {dd : Nat → Nat → Nat → Int} {fl : Nat → Int} {ds : Nat → Nat → Nat → Int} {fs v tx7 r D kp kb : Nat → Int} {x : Int64}
variable {h' : zH} {e : Nat → Nat → Int}
theorem St.rt2 (S : St T hz h b n tx d cnt nxt dd fl ds fs) (M : ShAt T h (b + 21) e) (hO : OkD e) {L : Nat} (hL : L < 2) : ∃ h' w0, FX2_readLetter T (b + 336) (b + 21) (iZ L) (iZ (e 0 3)) h = some (iZ (wall e L (e 3 L) w0 (nL e (e 3 L)) 0 0), h') ∧ RdAt T h' (b + 336) (wall e L (e 3 L) w0 (nL e (e 3 L))) ∧ ShAt T h' (b + 21) e ∧ St T hz h' b n tx d cnt nxt dd fl ds fs ∧ RdNew w0 ∧ offR (b + 336) h h' := by
  have S3 : ∃ w, RdAt T h (b + 336) w ∧ RdIn w := S.2.2.1 3 (by omega)
  obtain ⟨w, hR, hI⟩ := S3
  obtain ⟨h', w0, q, R1, f1, N1⟩ := readLetter_eq hR hI M hO (by omega) hL
  exact ⟨h', w0, q, R1, f1.sh M (by omega), S.sc (i := 3) (by omega) ⟨_, R1, (rdok hO N1).rin⟩ (fun q hq => f1 q hq), N1, f1⟩
end Ru
