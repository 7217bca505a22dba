/-! THE MODEL: safe, regular -/
section MM
variable {L : Nat} {g : Nat → Nat → Int32} {s : Sx} {f : Nat → Int32} {N : Nat}
theorem b2_congr {p q : Prop} [Decidable p] [Decidable q] (h : p ↔ q) : b2 p = b2 q := by
  unfold b2
  by_cases c : p
  · rw [if_pos c, if_pos (h.mp c)]
  · rw [if_neg c, if_neg (fun z => c (h.mpr z))]
end MM
