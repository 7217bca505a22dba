/-! THE MODEL'S ROWS: 80 of 142 numbers; copies of them -/
def zS : Sx := mkS (fun _ => 0) (fun _ => 0) (fun _ _ => 0) (fun _ _ => 0)
section RR
variable {L a b : Nat} {g : Nat → Nat → Int32} {s : Sx} {f F : Nat → Int32} {rs : Nat → Sx}
end RR
