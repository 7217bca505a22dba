/-! THE MODEL: reads judged -/
def hI (h : Hy) (n : Nat) : Prop := hOk h n ∧ (∀ a, a < n → h.E a = -1 ∨ Ix 1000 (h.E a)) ∧ (∀ a, a < n → Ix 1000 (h.S a)) ∧ (∀ a, a < n → ∀ b, b < n → ¬ h.E a = h.S b) ∧ (∀ a, a < n → ¬ h.E a = -1 → h.S a < h.E a)
theorem Ix_pos {n : Nat} {x : Int32} (h : Ix n x) (hn : n ≤ 2147483648) : ¬ x < 0 := by
  obtain ⟨a, ha, rfl⟩ := h
  exact nI_pos (by omega)
theorem Ix_n1 {n : Nat} {x : Int32} (h : Ix n x) (hn : n ≤ 2147483648) : ¬ x = -1 := by
  intro z
  have h2 := Ix_pos h hn
  rw [z] at h2
  exact h2 (by decide)
abbrev hJm (s : Sx) (a : Nat) : Prop := wrs s = 1 ∧ (hyM s).W a = -1 ∧ ¬ (hyM s).E a = -1
abbrev hGbM (s : Sx) (n r : Nat) : Prop := ¬ hGs (hyM s) n r = -1 ∧ ∃ q, q < n ∧ (hJm s q ∧ hAh (hyM s) q r ∧ hGs (hyM s) n r < hLs (hyM s) n q)
section MM
variable {L : Nat} {g : Nat → Nat → Int32} {s : Sx} {f : Nat → Int32} {N : Nat}
end MM
