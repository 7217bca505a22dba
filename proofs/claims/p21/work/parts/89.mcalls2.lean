/-! THE MODEL'S CALLS: begin, act, cell -/
def acM (m : Sx) (N a w : Nat) : Int32 :=
  if w = 0 then m.A a 0 else if w = 1 then m.A a 1 else if w = 2 then m.A a 4 else if w = 3 then m.A a 2 else if w = 4 then m.A a 3 else if hJm m a then (if w = 5 then b2 (hSf (hyM m) N a) else b2 (¬ hGs (hyM m) N a = -1)) else -1
section RR
variable {L : Nat} {g : Nat → Nat → Int32} {m : Sx} {k : Nat} {hs : Nat → Sx} {kp : Nat → Bool} {im : Nat → Sx} {is : Nat → Nat} {sd bk : Nat} {ba bv : Nat → Int32} {rs : Nat → Sx} {b po bs r n t N : Nat} {f : Nat → Int32} {x y : Int32}
theorem beg_pre (I : Iv b po bs r n t N m) : wN b + n ≤ 5 ∧ prcs m = nI (wN b + n) ∧ wrs m = wN b ∧ m.H 3 = nI r ∧ r < 1000 ∧ m.H 6 = nI N ∧ N ≤ 7 := by
  obtain ⟨ok, sh, h6, hN, -⟩ := I.1
  have hnp := np_le ok
  exact ⟨hnp, prcs_b sh ok.1, wrs_b sh.1 ok.1, sh.2.2.2.1, by have := ok.2.2.2.2.1; omega, h6, hN⟩
end RR
