/-! THE MODEL: one turn of its walk -/
section RR
variable {L : Nat} {g g0 : Nat → Nat → Int32} {m m0 z : Sx} {b po bs r n t N : Nat} {f F : Nat → Int32} {X : WX} {rows R0 : Nat → Sx}
theorem wd1 (hx : ¬ wEx X) : ∃ d, wDp X = d + 1 := by
  have : ¬ wDp X = 0 := fun z => hx (Or.inl z)
  exact ⟨wDp X - 1, by omega⟩
end RR
