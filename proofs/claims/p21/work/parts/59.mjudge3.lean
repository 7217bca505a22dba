/-! THE MODEL: which read goes back; numbers of acts of writing against numbers of acts -/
/-- one writer: acts of writing one behind another -/
def hSq (h : Hy) (n : Nat) : Prop := ∀ b, b < n → ∀ a, a < b → ¬ h.W a = -1 → ¬ h.W b = -1 → hAh h a b
theorem nI_nm1 {k : Nat} (h : k < 2147483648) : ¬ nI k = -1 := Ix_n1 ⟨k, Nat.lt_succ_self _, rfl⟩ (by omega)
