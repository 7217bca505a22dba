/-! WHAT THE MODEL'S CELLS STAND FOR; its calls that keep no history -/
def hcons (m : Sx) (hs : Nat → Sx) : Nat → Sx := fun i => if i = 0 then m else hs (i - 1)
def setB (kp : Nat → Bool) (i : Nat) : Nat → Bool := fun j => if j = i then true else kp j
section RR
variable {L : Nat} {g : Nat → Nat → Int32} {m : Sx} {k : Nat} {hs : Nat → Sx} {kp : Nat → Bool} {im : Nat → Sx} {is : Nat → Nat} {sd bk : Nat} {ba bv : Nat → Int32} {rs : Nat → Sx}
end RR
