/-! THE MODEL'S CALLS: ways, bad -/
def wAns (X : WX) (w : Nat) : Int32 := if w = 0 then nI (wCt X) else if w = 1 then nI (wBd X) else if w = 2 then wFb X else nI (wLg X)
/-- the whole walk from m on -/
noncomputable def wAll (np N : Nat) (m : Sx) : WX := wFin np N 41000 (wSt m)
section RR
variable {L : Nat} {g : Nat → Nat → Int32} {m z : Sx} {k : Nat} {hs : Nat → Sx} {kp : Nat → Bool} {im : Nat → Sx} {is : Nat → Nat} {sd bk : Nat} {ba bv : Nat → Int32} {rs : Nat → Sx} {b po bs r n t N : Nat} {f : Nat → Int32} {x : Int32} {X : WX}
end RR
