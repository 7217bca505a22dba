/-! THE MODEL: small calls -/
theorem rng_ix {x : Int32} {n : Nat} (hn : n < 1000) : (nI 0 ≤ x ∧ x ≤ nI n - nI 1) ↔ Ix n x := by
  constructor
  · rintro ⟨h1, h2⟩
    obtain ⟨j, hj, e⟩ := nI_of (x := x) (Int32.not_lt.mpr h1)
    subst e
    match n, hn, h2 with
    | 0, _, h2 =>
      have h3 := Int32.le_trans h1 h2
      exact absurd h3 (by decide)
    | n + 1, hn, h2 =>
      have e : nI (n + 1) - nI 1 = nI n := nI_pred n
      rw [e] at h2
      have := (nI_leI hj (by omega)).mp h2
      exact ⟨j, by omega, rfl⟩
  · rintro ⟨j, hj, e⟩
    subst e
    obtain ⟨n', rfl⟩ : ∃ n', n = n' + 1 := ⟨n - 1, by omega⟩
    have e : nI (n' + 1) - nI 1 = nI n' := nI_pred n'
    rw [e]
    exact ⟨(nI_leI (by omega) (by omega)).mpr (Nat.zero_le _), (nI_leI (by omega) (by omega)).mpr (by omega)⟩
theorem rng_n {x : Int32} {a b : Nat} (ha : a < 1000) (hb : b < 1000) : (nI a ≤ x ∧ x ≤ nI b) ↔ ∃ j, a ≤ j ∧ j ≤ b ∧ x = nI j := by
  constructor
  · rintro ⟨h1, h2⟩
    have h0 : nI 0 ≤ nI a := (nI_leI (by omega) (by omega)).mpr (Nat.zero_le _)
    obtain ⟨j, hj, e⟩ := nI_of (x := x) (Int32.not_lt.mpr (Int32.le_trans h0 h1))
    subst e
    exact ⟨j, (nI_leI (by omega) hj).mp h1, (nI_leI hj (by omega)).mp h2, rfl⟩
  · rintro ⟨j, h1, h2, e⟩
    subst e
    exact ⟨(nI_leI (by omega) (by omega)).mpr h1, (nI_leI (by omega) (by omega)).mpr h2⟩
theorem b2_iff {P Q : Prop} [Decidable P] [Decidable Q] (h : P ↔ Q) : b2 P = b2 Q := b2_eq.mpr h
theorem b2_cc {P Q : Prop} [Decidable P] (h : P ↔ Q) : b2 P = b2c Q := by
  rw [b2_b2c]
  exact b2c_iff h
section RR
variable {L a b : Nat} {g : Nat → Nat → Int32} {s : Sx} {f F : Nat → Int32} {rs : Nat → Sx}
end RR
