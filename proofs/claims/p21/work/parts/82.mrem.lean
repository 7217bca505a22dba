/-! THE MODEL: what is remembered, taken back, laid anew -/
def mNew (b po ba r n : Int32) : Sx := itr (fun s p => s.sP p 0 (-1)) 5 ((((((zS.sH 0 b).sH 1 po).sH 2 ba).sH 3 r).sH 4 n).sC 0 (if b = nI 2 then nI 1 else nI 0))
section RR
variable {L a b : Nat} {g : Nat → Nat → Int32} {s : Sx} {f F : Nat → Int32} {rs : Nat → Sx}
theorem in_1_16 {n : Nat} (h1 : 1 ≤ n) (h16 : n ≤ 16) : b2 (nI 1 ≤ nI n ∧ nI n ≤ nI 16) = nI 1 := if_pos ⟨(nI_leI (by omega) (by omega)).mpr h1, (nI_leI (by omega) (by omega)).mpr h16⟩
end RR
