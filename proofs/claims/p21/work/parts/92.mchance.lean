/-! THE MODEL'S CALLS: drift -/
/-- one draw's deed: is there one; what is so then; the seed -/
def chM (np r wn : Nat) (m : Sx) (sd : Nat) : Bool × Sx × Nat :=
  if ¬ m.P (drN sd / 65536 % np) 0 = -1 then (true, mStp m (drN sd / 65536 % np) np (nI (drN (drN sd) / 65536 % ix (mChs m (drN sd / 65536 % np)))), drN (drN sd))
  else if m.H 6 < nI 7 then (if drN sd / 65536 % np < wn then (true, mBeg m (drN sd / 65536 % np) (nI (drN (drN sd) / 65536 % r)), drN (drN sd)) else (true, mBeg m (drN sd / 65536 % np) (nI 0), drN sd))
  else (false, m, drN sd)
def kup (k : Nat) : Nat := if k < 16 then k + 1 else 16
theorem kup_16 {k : Nat} : kup k ≤ 16 := by
  unfold kup
  split <;> omega
section RR
variable {L : Nat} {g : Nat → Nat → Int32} {m : Sx} {k : Nat} {hs : Nat → Sx} {kp : Nat → Bool} {im : Nat → Sx} {is : Nat → Nat} {sd bk : Nat} {ba bv : Nat → Int32} {rs : Nat → Sx} {b po bs r n t N : Nat} {f : Nat → Int32} {x1 x2 x3 x4 x5 : Int32} {h : Hp}
end RR
