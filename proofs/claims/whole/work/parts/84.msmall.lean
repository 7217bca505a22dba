/-! THE MODEL: small calls -/
theorem rng_ix {x : Int32} {n : Nat} (hn : n < 1000) : (nI 0 ≤ x ∧ x ≤ nI n - nI 1) ↔ Ix n x := by
  constructor
  · rintro ⟨h1, h2⟩
    obtain ⟨j, hj, e⟩ := nI_of (x := x) (Int32.not_lt.mpr h1)
    subst e
    match n, hn, h2 with
    | 0, _, h2 =>
      have h3 := Int32.le_trans h1 h2
      exact absurd h3 (by decide)
    | n + 1, hn, h2 =>
      have e : nI (n + 1) - nI 1 = nI n := nI_pred n
      rw [e] at h2
      have := (nI_leI hj (by omega)).mp h2
      exact ⟨j, by omega, rfl⟩
  · rintro ⟨j, hj, e⟩
    subst e
    obtain ⟨n', rfl⟩ : ∃ n', n = n' + 1 := ⟨n - 1, by omega⟩
    have e : nI (n' + 1) - nI 1 = nI n' := nI_pred n'
    rw [e]
    exact ⟨(nI_leI (by omega) (by omega)).mpr (Nat.zero_le _), (nI_leI (by omega) (by omega)).mpr (by omega)⟩
theorem rng_n {x : Int32} {a b : Nat} (ha : a < 1000) (hb : b < 1000) : (nI a ≤ x ∧ x ≤ nI b) ↔ ∃ j, a ≤ j ∧ j ≤ b ∧ x = nI j := by
  constructor
  · rintro ⟨h1, h2⟩
    have h0 : nI 0 ≤ nI a := (nI_leI (by omega) (by omega)).mpr (Nat.zero_le _)
    obtain ⟨j, hj, e⟩ := nI_of (x := x) (Int32.not_lt.mpr (Int32.le_trans h0 h1))
    subst e
    exact ⟨j, (nI_leI (by omega) hj).mp h1, (nI_leI hj (by omega)).mp h2, rfl⟩
  · rintro ⟨j, h1, h2, e⟩
    subst e
    exact ⟨(nI_leI (by omega) (by omega)).mpr h1, (nI_leI (by omega) (by omega)).mpr h2⟩
theorem b2_iff {P Q : Prop} [Decidable P] [Decidable Q] (h : P ↔ Q) : b2 P = b2 Q := b2_eq.mpr h
theorem b2_cc {P Q : Prop} [Decidable P] (h : P ↔ Q) : b2 P = b2c Q := by
  rw [b2_b2c]
  exact b2c_iff h
section RR
variable {L a b : Nat} {g : Nat → Nat → Int32} {s : Sx} {f F : Nat → Int32} {rs : Nat → Sx}
theorem M_isProcess {x : Int32} {n : Nat} (hp : prcs s = nI n) (hn : n < 1000) : Den 85 [.ref 86, .int x] (HM L g s f) = some (some (b2c (Ix n x)), HM L g s f) := by
  rw [D0_85]
  simp only [e85_0, e85_1, e85_2, e85_3, e85_4, e85_7, e85_8, e85_9, e85_10, e85_13, en_10, en_46, i_86, M_processes, hp, M_in (x := x) (lo := nI 0) (hi := nI n - nI 1) (l := 0) (u := (nI n - nI 1).toInt64) (by decide) rfl, b2_01, lvH_Hq, Option.bind_some, psh_i, psh_n, Hq_G, Hq_setG, upf_same, upf_upf]
  rw [b2_cc (rng_ix hn)]
theorem M_isAct {x : Int32} {n : Nat} (hp : s.H 6 = nI n) (hn : n < 1000) : Den 40 [.ref 86, .int x] (HM L g s f) = some (some (b2c (Ix n x)), HM L g s f) := by
  rw [D0_40]
  simp only [e40_0, e40_1, e40_2, e40_3, e40_4, e40_7, e40_9, e40_10, e40_11, e40_12, e40_13, e40_16, en_10, i_86, f_86_0, a_87, n_87, in_H, rM_H, hp, M_in (x := x) (lo := nI 0) (hi := nI n - nI 1) (l := 0) (u := (nI n - nI 1).toInt64) (by decide) rfl, b2_01, not_false_eq_true, lvH_Hq, Option.bind_some, psh_i, psh_n, Hq_G, Hq_setG, upf_same, upf_upf, Nat.reduceLT, Nat.reduceLeDiff, Nat.reduceAdd, Nat.reduceMul]
  rw [b2_cc (rng_ix hn)]
theorem M_cell1 {k n : Nat} (hp : clls s = nI n) (hn : n ≤ 9) (hk : k < n) : Den 37 [.ref 86, .int (nI k)] (HM L g s f) = some (some (s.C k), HM L g s f) := by
  have e : b2 (nI 0 ≤ nI k ∧ nI k ≤ nI n - nI 1) = nI 1 := if_pos ((rng_ix (by omega)).mpr ⟨k, hk, rfl⟩)
  rw [D0_37]
  simp only [e37_0, e37_1, e37_2, e37_3, e37_4, e37_7, e37_8, e37_9, e37_10, e37_13, e37_16, e37_17, e37_20, e37_22, e37_23, e37_24, e37_25, e37_28, e37_30, en_7, en_10, i_86, f_86_0, a_87, n_87, M_cells, hp, M_in (x := nI k) (lo := nI 0) (hi := nI n - nI 1) (l := 0) (u := (nI n - nI 1).toInt64) (by decide) rfl, e, one_n0, if_false, nI_add, in_C (show k < 10 by omega), rM_C (show k < 10 by omega), not_false_eq_true, lvH_Hq, Option.bind_some, psh_i, psh_n, Hq_G, Hq_setG, upf_same, upf_upf]
theorem M_cell0 {x : Int32} {n : Nat} (hp : clls s = nI n) (hn : n ≤ 9) (hk : ¬ Ix n x) : Den 37 [.ref 86, .int x] (HM L g s f) = some (some (-1000000001), HM L g s f) := by
  have e : b2 (nI 0 ≤ x ∧ x ≤ nI n - nI 1) = nI 0 := if_neg (fun z => hk ((rng_ix (by omega)).mp z))
  have e2 : (nI 0 = 0) = True := eq_true rfl
  rw [D0_37]
  simp only [e37_0, e37_1, e37_2, e37_3, e37_4, e37_7, e37_8, e37_9, e37_10, e37_13, e37_16, e37_17, e37_20, e37_22, e37_23, e37_24, e37_25, e37_28, e37_30, en_7, en_10, i_86, f_86_0, a_87, n_87, M_cells, hp, M_in (x := x) (lo := nI 0) (hi := nI n - nI 1) (l := 0) (u := (nI n - nI 1).toInt64) (by decide) rfl, e, e2, if_true, not_false_eq_true, lvH_Hq, Option.bind_some, psh_i, psh_n, Hq_G, Hq_setG, upf_same, upf_upf]
theorem L_stampM {n : Nat} (hp : clls s = nI n) (hn : n ≤ 9) : ∀ k j (v : Value), j + k = n → Rr 48 4 [.ref 86, .int (gst s j), .int (nI j)] [] (HM L g s f) = some (some (gst s n), HM L g s f)
  | 0, j, v, h => by
    have : j = n := by omega
    subst this
    rw [e48_4]
    simp only [e48_0, e48_1, e48_2, e48_3, e48_5, e48_6, e48_9, e48_12, e48_13, e48_16, e48_18, e48_19, e48_20, e48_21, e48_23, e48_24, e48_25, e48_28, e48_29, e48_32, e48_34, e48_35, e48_36, e48_37, e48_39, e48_40, e48_43, e48_44, e48_45, e48_48, e48_51, e48_52, en_7, i_86, M_cells, hp, Int32.le_refl, if_true, lvH_Hq, Option.bind_some, psh_i, psh_n, Hq_G, Hq_setG, upf_same, upf_upf]
  | k + 1, j, v, h => by
    have h1 : ¬ nI n ≤ nI j := nI_ge (by omega) (by omega)
    have ih := L_stampM hp hn k (j + 1) v (by omega)
    have hc := in_C (show j < 10 by omega)
    have hr : layM s f (nI (7 + j)).toNatClampNeg = s.C j := rM_C (show j < 10 by omega)
    rw [e48_4]
    simp only [e48_0, e48_1, e48_2, e48_3, e48_5, e48_6, e48_9, e48_12, e48_13, e48_16, e48_18, e48_19, e48_20, e48_21, e48_23, e48_24, e48_25, e48_28, e48_29, e48_32, e48_34, e48_35, e48_36, e48_37, e48_39, e48_40, e48_43, e48_44, e48_45, e48_48, e48_51, e48_52, en_7, i_86, f_86_0, a_87, n_87, M_cells, hp, h1, if_false, nI_add, hc, hr, K100, not_false_eq_true, lvH_Hq, Option.bind_some, psh_i, psh_n, Hq_G, Hq_setG, upf_same, upf_upf]
    by_cases c : gst s j < s.C j / nI 100
    · have e : gst s (j + 1) = s.C j / nI 100 := if_pos c
      rw [if_neg (Int32.not_le.mpr c), ← e, ih]
    · have e : gst s (j + 1) = gst s j := if_neg c
      rw [if_pos (Int32.not_lt.mp c), ← e, ih]
theorem M_stampMost {n : Nat} (hp : clls s = nI n) (hn : n ≤ 9) : Den 48 [.ref 86] (HM L g s f) = some (some (gst s n), HM L g s f) := by
  rw [D0_48]
  simp only [e48_0, e48_1, e48_2, e48_3, e48_5, e48_6, e48_9, e48_12, e48_13, e48_16, e48_18, e48_19, e48_20, e48_21, e48_23, e48_24, e48_25, e48_28, e48_29, e48_32, e48_34, e48_35, e48_36, e48_37, e48_39, e48_40, e48_43, e48_44, e48_45, e48_48, e48_51, e48_52, en_7]
  exact L_stampM hp hn n 0 (.int 0) (by omega)
theorem L_underM {n : Nat} (hp : prcs s = nI n) (hn : n ≤ 5) : ∀ k j, j + k = n → Rr 128 4 [.ref 86, .int (cntU s j), .int (nI j)] [] (HM L g s f) = some (some (cntU s n), HM L g s f)
  | 0, j, h => by
    have : j = n := by omega
    subst this
    rw [e128_4]
    simp only [e128_0, e128_1, e128_2, e128_3, e128_5, e128_6, e128_9, e128_12, e128_13, e128_14, e128_15, e128_18, e128_21, e128_22, e128_25, e128_26, e128_27, e128_28, e128_31, e128_34, e128_35, en_46, en_86, i_86, M_processes, hp, Int32.le_refl, if_true, lvH_Hq, Option.bind_some, psh_i, psh_n, Hq_G, Hq_setG, upf_same, upf_upf]
  | k + 1, j, h => by
    have h1 : ¬ nI n ≤ nI j := nI_ge (by omega) (by omega)
    have ih := L_underM hp hn k (j + 1) (by omega)
    rw [e128_4]
    simp only [e128_0, e128_1, e128_2, e128_3, e128_5, e128_6, e128_9, e128_12, e128_13, e128_14, e128_15, e128_18, e128_21, e128_22, e128_25, e128_26, e128_27, e128_28, e128_31, e128_34, e128_35, en_46, en_86, i_86, M_processes, hp, h1, if_false, M_isUnderWay (show j < 5 by omega), nI_add, lvH_Hq, Option.bind_some, psh_i, psh_n, Hq_G, Hq_setG, upf_same, upf_upf, b2_0]
    by_cases c : s.P j 0 = -1
    · have e : cntU s (j + 1) = cntU s j + nI 0 := (if_pos c).trans (show cntU s j = cntU s j + nI 0 from (Int32.add_zero _).symm)
      rw [if_pos (fun z => z c), ← e, ih]
    · have e : cntU s (j + 1) = cntU s j + nI 1 := if_neg c
      rw [if_neg (fun z => z c), ← e, ih]
theorem M_underWay {n : Nat} (hp : prcs s = nI n) (hn : n ≤ 5) : Den 128 [.ref 86] (HM L g s f) = some (some (cntU s n), HM L g s f) := by
  rw [D0_128]
  simp only [e128_0, e128_1, e128_2, e128_3, e128_5, e128_6, e128_9, e128_12, e128_13, e128_14, e128_15, e128_18, e128_21, e128_22, e128_25, e128_26, e128_27, e128_28, e128_31, e128_34, e128_35, en_46, en_86]
  exact L_underM hp hn n 0 (by omega)
theorem L_anyM {n : Nat} (hp : prcs s = nI n) (hn : n ≤ 5) : ∀ k j, j + k = n → Rr 124 4 [.ref 86, .int (b2 (∃ i, i < j ∧ ¬ s.P i 0 = -1)), .int (nI j)] [] (HM L g s f) = some (some (b2 (∃ i, i < n ∧ ¬ s.P i 0 = -1)), HM L g s f)
  | 0, j, h => by
    have : j = n := by omega
    subst this
    rw [e124_4]
    simp only [e124_0, e124_1, e124_2, e124_3, e124_5, e124_6, e124_9, e124_12, e124_13, e124_16, e124_17, e124_18, e124_21, e124_24, e124_25, e124_28, e124_29, e124_30, e124_33, e124_36, e124_37, en_46, en_86, i_86, M_processes, hp, Int32.le_refl, if_true, lvH_Hq, Option.bind_some, psh_i, psh_n, Hq_G, Hq_setG, upf_same, upf_upf, b2_01]
  | k + 1, j, h => by
    have h1 : ¬ nI n ≤ nI j := nI_ge (by omega) (by omega)
    have ih := L_anyM hp hn k (j + 1) (by omega)
    rw [e124_4]
    simp only [e124_0, e124_1, e124_2, e124_3, e124_5, e124_6, e124_9, e124_12, e124_13, e124_16, e124_17, e124_18, e124_21, e124_24, e124_25, e124_28, e124_29, e124_30, e124_33, e124_36, e124_37, en_46, en_86, i_86, M_processes, hp, h1, if_false, M_isUnderWay (show j < 5 by omega), nI_add, lvH_Hq, Option.bind_some, psh_i, psh_n, Hq_G, Hq_setG, upf_same, upf_upf, b2_0, Classical.not_not]
    by_cases c : ∃ i, i < j ∧ ¬ s.P i 0 = -1
    · have e : b2 (∃ i, i < j + 1 ∧ ¬ s.P i 0 = -1) = nI 1 := if_pos (by
        obtain ⟨i, hi, hc⟩ := c
        exact ⟨i, by omega, hc⟩)
      rw [if_pos c, ← e, ih]
    · rw [if_neg c]
      by_cases c2 : s.P j 0 = -1
      · have e : b2 (∃ i, i < j + 1 ∧ ¬ s.P i 0 = -1) = nI 0 := if_neg (by
          rintro ⟨i, hi, hc⟩
          by_cases e : i = j
          · rw [e] at hc
            exact hc c2
          · exact c ⟨i, by omega, hc⟩)
        rw [if_pos c2, ← e, ih]
      · have e : b2 (∃ i, i < j + 1 ∧ ¬ s.P i 0 = -1) = nI 1 := if_pos ⟨j, by omega, c2⟩
        rw [if_neg c2, ← e, ih]
theorem M_isAny {n : Nat} (hp : prcs s = nI n) (hn : n ≤ 5) : Den 124 [.ref 86] (HM L g s f) = some (some (b2 (∃ i, i < n ∧ ¬ s.P i 0 = -1)), HM L g s f) := by
  have h := L_anyM (L := L) (g := g) (f := f) hp hn n 0 (by omega)
  have e : ∀ z : Nat, z = 0 → b2 (∃ i, i < z ∧ ¬ s.P i 0 = -1) = nI 0 := fun z hz => if_neg (by rintro ⟨i, hi, _⟩; omega)
  rw [D0_124]
  simp only [e124_0, e124_1, e124_2, e124_3, e124_5, e124_6, e124_9, e124_12, e124_13, e124_16, e124_17, e124_18, e124_21, e124_24, e124_25, e124_28, e124_29, e124_30, e124_33, e124_36, e124_37, en_46, en_86]
  rw [← h]
  have e0 := e 0 rfl
  exact congrArg (fun x => Rr 124 4 [.ref 86, .int x, .int (nI 0)] [] (HM L g s f)) e0.symm
end RR
