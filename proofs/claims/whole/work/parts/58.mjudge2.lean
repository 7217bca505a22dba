/-! THE MODEL: safe, regular -/
section MM
variable {L : Nat} {g : Nat → Nat → Int32} {s : Sx} {f : Nat → Int32} {N : Nat}
theorem ex_succ {P : Nat → Prop} {j : Nat} : (∃ i, i < j + 1 ∧ P i) ↔ (∃ i, i < j ∧ P i) ∨ P j := by
  constructor
  · rintro ⟨i, h1, h2⟩
    by_cases e : i = j
    · subst e; exact Or.inr h2
    · exact Or.inl ⟨i, by omega, h2⟩
  · rintro (⟨i, h1, h2⟩ | h2)
    · exact ⟨i, by omega, h2⟩
    · exact ⟨j, by omega, h2⟩
theorem b2_congr {p q : Prop} [Decidable p] [Decidable q] (h : p ↔ q) : b2 p = b2 q := by
  unfold b2
  by_cases c : p
  · rw [if_pos c, if_pos (h.mp c)]
  · rw [if_neg c, if_neg (fun z => c (h.mpr z))]
theorem L_msafe (HI : hI (hyM s) N) (hN : s.H 6 = nI N) (h7 : N ≤ 7) {r : Nat} (hr : r < N) (hE : ¬ (hyM s).E r = -1) {q : Prop} [Decidable q] : ∀ k j, j + k = N → Rr 175 23 [.ref 86, .int (nI r), .int (b2 (q ∨ ∃ w, w < j ∧ hBs (hyM s) w r)), .int (nI j)] [] (HM L g s f) = some (some (b2 (q ∨ ∃ w, w < N ∧ hBs (hyM s) w r)), HM L g s f)
  | 0, j, h => by
    have : j = N := by omega
    subst this
    rw [e175_23]
    simp only [e175_0, e175_1, e175_2, e175_3, e175_4, e175_7, e175_8, e175_9, e175_12, e175_15, e175_16, e175_19, e175_20, e175_21, e175_22, e175_24, e175_25, e175_28, e175_30, e175_31, e175_34, e175_35, e175_38, e175_39, e175_40, e175_41, e175_47, e175_48, e175_51, e175_52, e175_53, e175_56, e175_59, e175_60, en_45, en_146, en_159, i_86, f_86_0, a_87, n_87, in_H, rM_H, hN, not_false_eq_true, lvH_Hq, Option.bind_some, psh_i, psh_n, Hq_G, Hq_setG, upf_same, upf_upf, Nat.reduceLT, Nat.reduceLeDiff, Nat.reduceAdd, Nat.reduceMul, Int32.le_refl, if_true, b2_01]
  | k + 1, j, h => by
    have hj : j < N := by omega
    have h1 : ¬ nI N ≤ nI j := nI_ge (by omega) (by omega)
    have ih := L_msafe HI hN h7 hr hE (q := q) k (j + 1) (by omega)
    generalize b2 (q ∨ ∃ w, w < N ∧ hBs (hyM s) w r) = T at ih ⊢
    rw [e175_23]
    simp only [e175_24, e175_25, e175_28, e175_30, e175_31, e175_34, e175_35, i_86, f_86_0, a_87, n_87, in_H, rM_H, hN, h1, if_false, not_false_eq_true, lvH_Hq, Option.bind_some, psh_i, psh_n, Hq_G, Hq_setG, upf_same, upf_upf, Nat.reduceLT, Nat.reduceLeDiff, Nat.reduceAdd, Nat.reduceMul, b2_0, Classical.not_not]
    by_cases c1 : q ∨ ∃ w, w < j ∧ hBs (hyM s) w r
    · have e : b2 (q ∨ ∃ w, w < j + 1 ∧ hBs (hyM s) w r) = nI 1 := if_pos (c1.imp id (fun z => ex_succ.mpr (Or.inl z)))
      rw [e] at ih
      rw [if_pos c1]
      simp only [e175_47, e175_48, e175_52, e175_53, e175_56, nI_add]
      exact ih
    · rw [if_neg c1]
      simp only [e175_38, e175_39, e175_40, e175_41, e175_44, en_146, i_86, M_overlaps HI h7 hj hr hE, lvH_Hq, Option.bind_some, psh_i, psh_n, Hq_G, Hq_setG, upf_same, upf_upf, b2_0, ite_not]
      by_cases c2 : hBs (hyM s) j r
      · have e : b2 (q ∨ ∃ w, w < j + 1 ∧ hBs (hyM s) w r) = nI 1 := if_pos (Or.inr ((ex_succ (P := fun w => hBs (hyM s) w r)).mpr (Or.inr c2)))
        rw [e] at ih
        rw [if_pos c2]
        simp only [e175_47, e175_48, e175_52, e175_53, e175_56, nI_add]
        exact ih
      · have e : b2 (q ∨ ∃ w, w < j + 1 ∧ hBs (hyM s) w r) = nI 0 := if_neg (fun z => c1 (z.imp id (fun z => (ex_succ.mp z).resolve_right c2)))
        rw [e] at ih
        rw [if_neg c2]
        simp only [e175_51, e175_52, e175_53, e175_56, nI_add]
        exact ih
theorem M_isSafe (HI : hI (hyM s) N) (hN : s.H 6 = nI N) (h7 : N ≤ 7) {r : Nat} (hr : r < N) (hE : ¬ (hyM s).E r = -1) : Den 175 [.ref 86, .int (nI r)] (HM L g s f) = some (some (b2 (hSf (hyM s) N r)), HM L g s f) := by
  have h0 := L_msafe (L := L) (g := g) (f := f) HI hN h7 hr hE (q := hTl (hyM s) N r) N 0 (by omega)
  have e : ∀ n : Nat, n = 0 → b2 (hTl (hyM s) N r ∨ ∃ w, w < n ∧ hBs (hyM s) w r) = b2 (hTl (hyM s) N r) := fun n hn => b2_congr ⟨fun z => z.elim id (fun ⟨w, hw, _⟩ => by omega), Or.inl⟩
  have e := e 0 rfl
  rw [e] at h0
  rw [D0_175]
  refine Eq.trans ?_ h0
  simp only [e175_0, e175_1, e175_2, e175_3, e175_4, e175_7, e175_8, e175_9, e175_12, en_45, en_159, i_86, M_ofRow (show r < 7 by omega), M_lastValue HI hN h7 hr, lvH_Hq, Option.bind_some, psh_i, psh_n, Hq_G, Hq_setG, upf_same, upf_upf, Nat.reduceLT, Nat.reduceLeDiff, Nat.reduceAdd, Nat.reduceMul, hyM_T, ite_not]
  unfold b2
  by_cases c : (hyM s).T r = hLv (hyM s) N r
  · rw [if_pos c, if_pos c]
    simp only [e175_15, e175_16, e175_20, e175_21, e175_22]
  · rw [if_neg c, if_neg c]
    simp only [e175_19, e175_20, e175_21, e175_22]
theorem L_mreg (HI : hI (hyM s) N) (hN : s.H 6 = nI N) (h7 : N ≤ 7) {r : Nat} (hr : r < N) (hE : ¬ (hyM s).E r = -1) {q : Prop} [Decidable q] : ∀ k j, j + k = N → Rr 174 23 [.ref 86, .int (nI r), .int (b2 (q ∨ ∃ w, w < j ∧ hTb (hyM s) w r)), .int (nI j)] [] (HM L g s f) = some (some (b2 (q ∨ ∃ w, w < N ∧ hTb (hyM s) w r)), HM L g s f)
  | 0, j, h => by
    have : j = N := by omega
    subst this
    rw [e174_23]
    simp only [e174_0, e174_1, e174_2, e174_3, e174_4, e174_7, e174_8, e174_9, e174_12, e174_15, e174_16, e174_19, e174_20, e174_21, e174_22, e174_24, e174_25, e174_28, e174_30, e174_31, e174_34, e174_35, e174_38, e174_39, e174_40, e174_41, e174_47, e174_48, e174_49, e174_50, e174_51, e174_54, e174_55, e174_56, e174_57, e174_58, e174_61, e174_64, e174_65, e174_68, e174_69, e174_70, e174_73, e174_76, e174_77, en_45, en_146, en_159, i_86, f_86_0, a_87, n_87, in_H, rM_H, hN, not_false_eq_true, lvH_Hq, Option.bind_some, psh_i, psh_n, Hq_G, Hq_setG, upf_same, upf_upf, Nat.reduceLT, Nat.reduceLeDiff, Nat.reduceAdd, Nat.reduceMul, Int32.le_refl, if_true, b2_01]
  | k + 1, j, h => by
    have hj : j < N := by omega
    have h1 : ¬ nI N ≤ nI j := nI_ge (by omega) (by omega)
    have ih := L_mreg HI hN h7 hr hE (q := q) k (j + 1) (by omega)
    generalize b2 (q ∨ ∃ w, w < N ∧ hTb (hyM s) w r) = T at ih ⊢
    have no : ¬ (q ∨ ∃ w, w < j ∧ hTb (hyM s) w r) → ¬ hTb (hyM s) j r → Rr 174 68 [.ref 86, .int (nI r), .int (b2 (q ∨ ∃ w, w < j ∧ hTb (hyM s) w r)), .int (nI j)] [] (HM L g s f) = some (some T, HM L g s f) := by
      intro c1 c2
      have e : b2 (q ∨ ∃ w, w < j + 1 ∧ hTb (hyM s) w r) = nI 0 := if_neg (fun z => c1 (z.imp id (fun z => (ex_succ.mp z).resolve_right c2)))
      rw [e] at ih
      simp only [e174_68, e174_69, e174_70, e174_73, nI_add]
      exact ih
    have yes : (q ∨ ∃ w, w < j + 1 ∧ hTb (hyM s) w r) → Rr 174 64 [.ref 86, .int (nI r), .int (b2 (q ∨ ∃ w, w < j ∧ hTb (hyM s) w r)), .int (nI j)] [] (HM L g s f) = some (some T, HM L g s f) := by
      intro c
      have e : b2 (q ∨ ∃ w, w < j + 1 ∧ hTb (hyM s) w r) = nI 1 := if_pos c
      rw [e] at ih
      simp only [e174_64, e174_65, e174_69, e174_70, e174_73, nI_add]
      exact ih
    rw [e174_23]
    simp only [e174_24, e174_25, e174_28, e174_30, e174_31, e174_34, e174_35, i_86, f_86_0, a_87, n_87, in_H, rM_H, hN, h1, if_false, not_false_eq_true, lvH_Hq, Option.bind_some, psh_i, psh_n, Hq_G, Hq_setG, upf_same, upf_upf, Nat.reduceLT, Nat.reduceLeDiff, Nat.reduceAdd, Nat.reduceMul, b2_0, Classical.not_not]
    by_cases c1 : q ∨ ∃ w, w < j ∧ hTb (hyM s) w r
    · rw [if_pos c1]
      exact yes (c1.imp id (fun z => ex_succ.mpr (Or.inl z)))
    · rw [if_neg c1]
      simp only [e174_38, e174_39, e174_40, e174_41, e174_44, en_146, i_86, M_overlaps HI h7 hj hr hE, lvH_Hq, Option.bind_some, psh_i, psh_n, Hq_G, Hq_setG, upf_same, upf_upf, b2_0, ite_not]
      by_cases c2 : hBs (hyM s) j r
      · rw [if_pos c2]
        simp only [e174_47, e174_48, e174_49, e174_50, e174_51, e174_54, e174_55, e174_56, e174_57, e174_58, e174_61, en_45, i_86, M_ofRow (show j < 7 by omega), M_ofRow (show r < 7 by omega), lvH_Hq, Option.bind_some, psh_i, psh_n, Hq_G, Hq_setG, upf_same, upf_upf, Nat.reduceLT, Nat.reduceLeDiff, Nat.reduceAdd, Nat.reduceMul, hyM_T, hyM_W, ite_not]
        by_cases c3 : (hyM s).W j = (hyM s).T r
        · rw [if_pos c3]
          exact yes (Or.inr (ex_succ.mpr (Or.inr ⟨c2, c3⟩)))
        · rw [if_neg c3]
          exact no c1 (fun z => c3 z.2)
      · rw [if_neg c2]
        exact no c1 (fun z => c2 z.1)
theorem hGd_m1 {h : Hy} {n r : Nat} (hn : n < 1000) : ∀ k, k < 1000 → (hGd h n r k = -1 ↔ ¬ (hTl h n r ∨ ∃ w, w < k ∧ hTb h w r))
  | 0, _ => by
    rw [hGd]
    split
    · rename_i c
      constructor
      · intro z
        rcases hLw_ix (h := h) (r := r) n with e | ⟨a, ha, e⟩
        · rw [e] at z; exact absurd z (by decide)
        · rw [e, nI_add] at z; exact absurd z (Ix_n1 ⟨a + 1, Nat.lt_succ_self _, rfl⟩ (by omega))
      · intro z; exact absurd (Or.inl c) z
    · rename_i c
      constructor
      · intro _ z
        rcases z with z | ⟨w, hw, -⟩
        · exact c z
        · omega
      · intro _; rfl
  | k + 1, hk => by
    rw [hGd]
    split
    · rename_i c
      constructor
      · intro z; rw [nI_add] at z; exact absurd z (Ix_n1 ⟨k + 1, Nat.lt_succ_self _, rfl⟩ (by omega))
      · intro z; exact absurd (Or.inr ⟨k, by omega, c⟩) z
    · rename_i c
      rw [hGd_m1 hn k (by omega), ex_succ]
      constructor
      · rintro z (z2 | z2 | z2)
        · exact z (Or.inl z2)
        · exact z (Or.inr z2)
        · exact c z2
      · rintro z (z2 | z2)
        · exact z (Or.inl z2)
        · exact z (Or.inr (Or.inl z2))
theorem M_isRegular (HI : hI (hyM s) N) (hN : s.H 6 = nI N) (h7 : N ≤ 7) {r : Nat} (hr : r < N) (hE : ¬ (hyM s).E r = -1) : Den 174 [.ref 86, .int (nI r)] (HM L g s f) = some (some (b2 (¬ hGs (hyM s) N r = -1)), HM L g s f) := by
  have h0 := L_mreg (L := L) (g := g) (f := f) HI hN h7 hr hE (q := hTl (hyM s) N r) N 0 (by omega)
  have e : ∀ n : Nat, n = 0 → b2 (hTl (hyM s) N r ∨ ∃ w, w < n ∧ hTb (hyM s) w r) = b2 (hTl (hyM s) N r) := fun n hn => b2_congr ⟨fun z => z.elim id (fun ⟨w, hw, _⟩ => by omega), Or.inl⟩
  have e := e 0 rfl
  have e2 : b2 (¬ hGs (hyM s) N r = -1) = b2 (hTl (hyM s) N r ∨ ∃ w, w < N ∧ hTb (hyM s) w r) := b2_congr (by rw [hGd_m1 (by omega) N (by omega), Classical.not_not])
  rw [e] at h0
  rw [D0_174, e2]
  refine Eq.trans ?_ h0
  simp only [e174_0, e174_1, e174_2, e174_3, e174_4, e174_7, e174_8, e174_9, e174_12, en_45, en_159, i_86, M_ofRow (show r < 7 by omega), M_lastValue HI hN h7 hr, lvH_Hq, Option.bind_some, psh_i, psh_n, Hq_G, Hq_setG, upf_same, upf_upf, Nat.reduceLT, Nat.reduceLeDiff, Nat.reduceAdd, Nat.reduceMul, hyM_T, ite_not]
  unfold b2
  by_cases c : (hyM s).T r = hLv (hyM s) N r
  · rw [if_pos c, if_pos c]
    simp only [e174_15, e174_16, e174_20, e174_21, e174_22]
  · rw [if_neg c, if_neg c]
    simp only [e174_19, e174_20, e174_21, e174_22]
end MM
