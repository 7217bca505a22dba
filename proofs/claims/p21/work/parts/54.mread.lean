/-! THE MODEL: what a read may get -/
theorem ddl_len {f : Nat → Int32} : ∀ k, (ddl f k).length ≤ k
  | 0 => Nat.le_refl _
  | k + 1 => by
    have ih := ddl_len (f := f) k
    rw [ddl]
    split
    · omega
    · rw [List.length_append, List.length_singleton]
      omega
theorem ddl_mem {f : Nat → Int32} {x : Int32} : ∀ k, x ∈ ddl f k ↔ ∃ i, i < k ∧ f i = x
  | 0 => by simp [ddl]
  | k + 1 => by
    have ih := ddl_mem (f := f) (x := x) k
    rw [ddl]
    split
    · rename_i h
      rw [ih]
      constructor
      · rintro ⟨i, h1, h2⟩
        exact ⟨i, by omega, h2⟩
      · rintro ⟨i, h1, h2⟩
        by_cases e : i = k
        · subst e
          rw [← ih, ← h2]
          exact h
        · exact ⟨i, by omega, h2⟩
    · rw [List.mem_append, ih, List.mem_singleton]
      constructor
      · rintro (⟨i, h1, h2⟩ | h)
        · exact ⟨i, by omega, h2⟩
        · exact ⟨k, by omega, h.symm⟩
      · rintro ⟨i, h1, h2⟩
        by_cases e : i = k
        · subst e
          exact Or.inr h2.symm
        · exact Or.inl ⟨i, by omega, h2⟩
section MM
variable {L : Nat} {g : Nat → Nat → Int32} {s : Sx} {f : Nat → Int32}
end MM
