/-! THE MODEL'S CALLS: process, begin, step -/
def prM (m : Sx) (p w : Nat) : Int32 :=
  if w = 0 then m.P p 0 else if w = 1 then (if m.P p 0 = -1 then nI 0 else m.P p 1) else if w = 2 then b2 (mBg m p) else if w = 3 then (if m.P p 0 = -1 then -1 else if 0 < m.P p 5 then mCel m p else -1) else if w = 4 then mChs m p else m.P p 3
section RR
variable {L : Nat} {g : Nat → Nat → Int32} {m : Sx} {k : Nat} {hs : Nat → Sx} {kp : Nat → Bool} {im : Nat → Sx} {is : Nat → Nat} {sd bk : Nat} {ba bv : Nat → Int32} {rs : Nat → Sx} {b po bs r n t N : Nat} {f : Nat → Int32} {x y : Int32}
theorem zz : (nI 0 = 0) = True := eq_true rfl
end RR
