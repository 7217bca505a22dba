/-! THE MODEL: what is told -/
def clN (b r n : Nat) : Nat := if b = 2 then r else if b = 4 then n * n else if b = 5 then 2 else 1
theorem clN_9 {b po ba r n : Nat} (ok : okSh b po ba r n) : clN b r n ≤ 9 := by
  obtain ⟨hb, hpo, hba, hr2, hr4, hn1, hn3, -⟩ := ok
  unfold clN
  split
  · omega
  · split
    · have : n = 1 ∨ n = 2 ∨ n = 3 := by omega
      rcases this with e | e | e <;> subst e <;> decide
    · split <;> omega
theorem clls_b {b po ba r n : Nat} {m : Sx} (sh : shH b po ba r n m) (hb : b < 6) : clls m = nI (clN b r n) := by
  unfold clls clN
  rw [sh.1, sh.2.2.2.1, sh.2.2.2.2]
  have e5 : nI b = nI 5 ↔ b = 5 := nI_eq (by omega) (by omega)
  have e4 : nI b = nI 4 ↔ b = 4 := nI_eq (by omega) (by omega)
  have e2 : nI b = nI 2 ↔ b = 2 := nI_eq (by omega) (by omega)
  by_cases h2 : b = 2
  · rw [if_pos (e2.mpr h2), if_pos h2]
  · rw [if_neg (fun z => h2 (e2.mp z)), if_neg h2]
    by_cases h4 : b = 4
    · rw [if_pos (e4.mpr h4), if_pos h4, pk_mul]
    · rw [if_neg (fun z => h4 (e4.mp z)), if_neg h4]
      by_cases h5 : b = 5
      · rw [if_pos (e5.mpr h5), if_pos h5]
      · rw [if_neg (fun z => h5 (e5.mp z)), if_neg h5]
abbrev wrgP (m : Sx) (ba bv : Nat → Int32) (i : Nat) : Prop := ¬ ba i < m.H 6 ∨ ¬ m.A (ix (ba i)) 4 = bv i
abbrev rdP (m : Sx) (N w : Nat) (r : Nat) : Prop := hJm m r ∧ (if w = 0 then ¬ hSf (hyM m) N r else if w = 1 then hGs (hyM m) N r = -1 else hGbM m N r)
noncomputable def tlM (m : Sx) (N np nc k sd bk : Nat) (ba bv : Nat → Int32) (j : Nat) : Int32 :=
  if j < 5 then m.H j else if j = 5 then nI np else if j = 6 then nI nc else if j = 7 then nI N else if j = 8 then cntU m np else if j = 9 then m.H 5 else
  if j = 10 then b2c (hAt (hyM m) N) else if j < 14 then fstF (rdP m N (j - 11)) 0 N else if j = 14 then gst m nc else if j = 15 then nI bk else if j = 16 then fstF (wrgP m ba bv) 0 bk else if j = 17 then nI k else nI sd
section RR
variable {L : Nat} {g : Nat → Nat → Int32} {m : Sx} {k : Nat} {hs : Nat → Sx} {kp : Nat → Bool} {im : Nat → Sx} {is : Nat → Nat} {sd bk : Nat} {ba bv : Nat → Int32} {rs : Nat → Sx} {b po bs r n t N : Nat} {f : Nat → Int32}
theorem K10_19 : ∀ j, j < 19 → ∀ i, i < 19 → (nI j = nI i) = (j = i) := fun j hj i hi => propext (nI_eq (by omega) (by omega))
end RR
