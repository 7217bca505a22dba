/-! THE MODEL: steps, and acts begun -/
/-- what a step of the model wants -/
def mPre (s : Sx) (a N : Nat) : Prop := Ix 7 (s.P a 0) ∧ Ix 11 (s.P a 7) ∧ (¬ s.P a 5 = 0 → Ix 10 (mCel s a)) ∧ N ≤ 5 ∧ prcs s = nI N ∧ (∀ q, q < 5 → ¬ s.P q 0 = -1 → Ix 7 (s.P q 0)) ∧ (¬ s.P a 5 = 0 → s.H 2 < nI 2 ∧ s.P a 2 = 0 → ∀ j, j < N → ∀ q, q < 5 → ∃ o, o < 10 ∧ (itr (mBgB a (mCel s a) (mWt s a)) j (((s.sP a 2 (nI 1)).sP a 6 (s.C (ix (mCel s a)))).sP a 7 (nI 0))).P q 7 = nI o)
section MM
variable {L : Nat} {g : Nat → Nat → Int32} {s : Sx} {f : Nat → Int32}
end MM
