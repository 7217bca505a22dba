/-! more of what whole has -/
theorem i_tr {a b c : Int32} (h : a < b) (h2 : b < c) : a < c := by
  have h3 := Int32.lt_iff_toInt_lt.mp h
  have h4 := Int32.lt_iff_toInt_lt.mp h2
  exact Int32.lt_iff_toInt_lt.mpr (by omega)
theorem hLw_p {h : Hy} {r : Nat} : ∀ n, hLw h r n = -1 ∨ ∃ m, m < n ∧ hLw h r n = nI m ∧ ¬ h.W m = -1 ∧ hAh h m r
  | 0 => Or.inl rfl
  | n + 1 => by
    rw [hLw]
    split
    · rename_i c
      exact Or.inr ⟨n, by omega, rfl, c.1, c.2.1⟩
    · rcases hLw_p (h := h) (r := r) n with e | ⟨m, hm, e⟩
      · exact Or.inl e
      · exact Or.inr ⟨m, by omega, e⟩
theorem last_lt {h : Hy} {n r k m : Nat} (HI : hI h n) (HS : hSq h n) (hk : k < n) (hm : m < n) (ht : hTb h k r) (hw : ¬ h.W m = -1) (ha : hAh h m r) : m < k := by
  by_cases c : m < k
  · exact c
  · exfalso
    by_cases e : m = k
    · subst e
      exact ht.1.2.1 ha
    · have h1 := HS m hm k (by omega) ht.1.1 hw
      have h2 := HI.2.2.2.2 m hm ha.1
      exact ht.1.2.1 ⟨h1.1, i_tr h1.2 (i_tr h2 ha.2)⟩
/-- a source: none, the beginning, or behind an act of writing; below k, if acts from k on may be told -/
theorem src_lw {h : Hy} {n r : Nat} : ∃ x, x ≤ n ∧ hLw h r n + nI 1 = nI x ∧ (x = 0 ∨ ∃ m, x = m + 1 ∧ m < n ∧ ¬ h.W m = -1 ∧ hAh h m r) := by
  rcases hLw_p (h := h) (r := r) n with e | ⟨m, hm, e, hw, ha⟩
  · exact ⟨0, by omega, by rw [e]; decide, Or.inl rfl⟩
  · exact ⟨m + 1, by omega, by rw [e, nI_add], Or.inr ⟨m, rfl, hm, hw, ha⟩⟩
