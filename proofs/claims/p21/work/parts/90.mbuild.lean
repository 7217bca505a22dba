/-! THE MODEL'S CALLS: build -/
abbrev bdIn (x1 x2 x3 x4 x5 : Int32) : Prop := (nI 0 ≤ x1 ∧ x1 ≤ nI 5) ∧ (nI 0 ≤ x2 ∧ x2 ≤ nI 1) ∧ (nI 0 ≤ x3 ∧ x3 ≤ nI 2) ∧ (nI 2 ≤ x4 ∧ x4 ≤ nI 4) ∧ (nI 1 ≤ x5 ∧ x5 ≤ nI 3)
theorem bd_n {b po ba r n : Nat} (hb : b < 6) (hpo : po < 2) (hba : ba < 3) (hr : 2 ≤ r) (hr4 : r ≤ 4) (hn : 1 ≤ n) (hn3 : n ≤ 3) : bdIn (nI b) (nI po) (nI ba) (nI r) (nI n) :=
  ⟨(rng_n (by omega) (by omega)).mpr ⟨b, by omega, by omega, rfl⟩, (rng_n (by omega) (by omega)).mpr ⟨po, by omega, by omega, rfl⟩, (rng_n (by omega) (by omega)).mpr ⟨ba, by omega, by omega, rfl⟩, (rng_n (by omega) (by omega)).mpr ⟨r, by omega, by omega, rfl⟩, (rng_n (by omega) (by omega)).mpr ⟨n, by omega, by omega, rfl⟩⟩
theorem okSh_or {b po ba r n : Nat} : okSh b po ba r n ↔ b < 6 ∧ po < 2 ∧ ba < 3 ∧ 2 ≤ r ∧ r ≤ 4 ∧ 1 ≤ n ∧ n ≤ 3 ∧ (¬ b = 1 ∨ r = 2) ∧ (¬ b = 3 ∨ n = 1 ∧ ba = 1) ∧ (¬ b = 4 ∨ ba = 1) ∧ (¬ b = 5 ∨ ba = 2) := by
  have im : ∀ P Q : Prop, (P → Q) ↔ (¬ P ∨ Q) := fun P Q => ⟨fun h => (Classical.em P).elim (fun p => Or.inr (h p)) Or.inl, fun h p => h.elim (fun z => absurd p z) id⟩
  unfold okSh
  rw [im, im, im, im]
section RR
variable {L : Nat} {g : Nat → Nat → Int32} {m : Sx} {k : Nat} {hs : Nat → Sx} {kp : Nat → Bool} {im : Nat → Sx} {is : Nat → Nat} {sd bk : Nat} {ba bv : Nat → Int32} {rs : Nat → Sx} {b po bs r n t N : Nat} {f : Nat → Int32} {x1 x2 x3 x4 x5 : Int32} {h : Hp}
end RR
