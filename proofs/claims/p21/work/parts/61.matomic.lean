/-! THE MODEL: the history put in a row -/
theorem b2c_iff {P Q : Prop} (h : P ↔ Q) : b2c P = b2c Q := by rw [propext h]
theorem b2_b2c {P : Prop} [Decidable P] : b2 P = b2c P := by
  by_cases h : P
  · rw [b2c_t h]; exact if_pos h
  · rw [b2c_f h]; exact if_neg h
section MM
variable {L : Nat} {g : Nat → Nat → Int32} {s : Sx} {f : Nat → Int32} {N : Nat}
end MM
