/-! class Judge: reads judged -/
section JJ
variable {L : Nat} {g : Nat → Nat → Int32} {p q : Nat} {s : Sx}
theorem L_greatest (hs : St 170 (SF L) p q) {N r : Nat} (hN : s.H 6 = nI N) (h7 : N ≤ 7) (hr : r < 7) : ∀ k, k ≤ N → Rr 147 9 [.ref p, .int (nI r), .int (nI k - 1)] [] (HP L (upf g q (lay s))) = some (some (hGd (hyC s) N r k), HP L (upf g q (lay s)))
  | 0, h => by
    rw [e147_9]
    have h1 : nI 0 - 1 < 0 := by decide
    simp only [e147_0, e147_1, e147_3, e147_6, e147_7, e147_8, e147_10, e147_13, e147_14, e147_15, e147_16, e147_19, e147_22, e147_23, e147_24, e147_25, e147_26, e147_29, e147_32, e147_33, e147_34, e147_37, e147_40, e147_41, e147_42, e147_45, e147_46, e147_47, e147_50, e147_51, en_25, en_100, en_130, en_131, hs.i, D_toldLast hs hN h7 hr, D_lastWriting hs hN h7 hr, Nat.reduceLT, Nat.reduceLeDiff, Nat.reduceAdd, Nat.reduceMul, lvH_Hq, Option.bind_some, psh_i, psh_n, Hq_G, Hq_setG, upf_same, upf_upf, b2_0, b2_1, b2_01, one_01, zero_01, le32, Classical.not_not, ite_not, h1, if_true]
    rw [hGd]
    by_cases c : hTl (hyC s) N r
    · rw [if_pos c, if_pos c]
    · rw [if_neg c, if_neg c]
  | k + 1, h => by
    have ih := L_greatest hs hN h7 hr k (by omega)
    have h1 : ¬ nI k < 0 := nI_pos (by omega)
    have e : nI k + (Int32.ofInt (-1)) = nI k - 1 := by
      rw [Int32.sub_eq_add_neg]
      rfl
    rw [e147_9, nI_pred]
    simp only [e147_0, e147_1, e147_3, e147_6, e147_7, e147_8, e147_10, e147_13, e147_14, e147_15, e147_16, e147_19, e147_22, e147_23, e147_24, e147_25, e147_26, e147_29, e147_32, e147_33, e147_34, e147_37, e147_40, e147_41, e147_42, e147_45, e147_46, e147_47, e147_50, e147_51, en_25, en_100, en_130, en_131, hs.i, D_toldBeside hs (show k < 7 by omega) hr, Nat.reduceLT, Nat.reduceLeDiff, Nat.reduceAdd, Nat.reduceMul, lvH_Hq, Option.bind_some, psh_i, psh_n, Hq_G, Hq_setG, upf_same, upf_upf, b2_0, b2_1, b2_01, one_01, zero_01, le32, Classical.not_not, ite_not, h1, if_false, e]
    rw [hGd, ih]
    by_cases c : hTb (hyC s) k r
    · rw [if_pos c, if_pos c]
    · rw [if_neg c, if_neg c]
theorem D_greatest (hs : St 170 (SF L) p q) {N r : Nat} (hN : s.H 6 = nI N) (h7 : N ≤ 7) (hr : r < 7) : Den 147 [.ref p, .int (nI r)] (HP L (upf g q (lay s))) = some (some (hGs (hyC s) N r), HP L (upf g q (lay s))) := by
  rw [D0_147]
  simp only [e147_0, e147_1, e147_3, e147_6, e147_7, e147_8, e147_10, e147_13, e147_14, e147_15, e147_16, e147_19, e147_22, e147_23, e147_24, e147_25, e147_26, e147_29, e147_32, e147_33, e147_34, e147_37, e147_40, e147_41, e147_42, e147_45, e147_46, e147_47, e147_50, e147_51, en_25, en_100, en_130, en_131, hs.i, D_get hs, hN, Nat.reduceLT, Nat.reduceLeDiff, Nat.reduceAdd, Nat.reduceMul, lvH_Hq, Option.bind_some, psh_i, psh_n, Hq_G, Hq_setG, upf_same, upf_upf, b2_0, b2_1, b2_01, one_01, zero_01, le32, Classical.not_not, ite_not]
  exact L_greatest hs hN h7 hr N (Nat.le_refl _)
theorem L_least (hs : St 170 (SF L) p q) {N r : Nat} (hN : s.H 6 = nI N) (h7 : N ≤ 7) (hr : r < 7) : ∀ k j, j + k = N → Rr 148 18 [.ref p, .int (nI r), .int (nI j)] [] (HP L (upf g q (lay s))) = some (some (hLd (hyC s) r j k), HP L (upf g q (lay s)))
  | 0, j, h => by
    have : j = N := by omega
    subst this
    rw [e148_18]
    simp only [e148_0, e148_1, e148_2, e148_5, e148_8, e148_9, e148_10, e148_13, e148_14, e148_15, e148_16, e148_17, e148_19, e148_20, e148_22, e148_25, e148_28, e148_29, e148_30, e148_31, e148_34, e148_37, e148_38, e148_39, e148_40, e148_41, e148_44, e148_47, e148_48, en_25, en_100, en_130, en_131, hs.i, D_get hs, hN, lvH_Hq, Option.bind_some, psh_i, psh_n, Hq_G, Hq_setG, upf_same, upf_upf, Nat.reduceLT, Nat.reduceLeDiff, Nat.reduceAdd, Nat.reduceMul, Int32.le_refl, if_true]
    rfl
  | k + 1, j, h => by
    have hj : j < 7 := by omega
    have h1 : ¬ nI N ≤ nI j := nI_ge (by omega) (by omega)
    have ih := L_least hs hN h7 hr k (j + 1) (by omega)
    rw [e148_18]
    simp only [e148_0, e148_1, e148_2, e148_5, e148_8, e148_9, e148_10, e148_13, e148_14, e148_15, e148_16, e148_17, e148_19, e148_20, e148_22, e148_25, e148_28, e148_29, e148_30, e148_31, e148_34, e148_37, e148_38, e148_39, e148_40, e148_41, e148_44, e148_47, e148_48, en_25, en_100, en_130, en_131, hs.i, D_get hs, hN, D_toldBeside hs hj hr, Nat.reduceLT, Nat.reduceLeDiff, Nat.reduceAdd, Nat.reduceMul, lvH_Hq, Option.bind_some, psh_i, psh_n, Hq_G, Hq_setG, upf_same, upf_upf, b2_0, b2_1, b2_01, one_01, zero_01, le32, Classical.not_not, ite_not, h1, if_false, nI_add]
    rw [ih, hLd]
    by_cases c : hTb (hyC s) j r
    · rw [if_pos c, if_pos c, nI_add]
    · rw [if_neg c, if_neg c]
theorem D_least (hs : St 170 (SF L) p q) {N r : Nat} (hN : s.H 6 = nI N) (h7 : N ≤ 7) (hr : r < 7) : Den 148 [.ref p, .int (nI r)] (HP L (upf g q (lay s))) = some (some (hLs (hyC s) N r), HP L (upf g q (lay s))) := by
  rw [D0_148]
  simp only [e148_0, e148_1, e148_2, e148_5, e148_8, e148_9, e148_10, e148_13, e148_14, e148_15, e148_16, e148_17, e148_19, e148_20, e148_22, e148_25, e148_28, e148_29, e148_30, e148_31, e148_34, e148_37, e148_38, e148_39, e148_40, e148_41, e148_44, e148_47, e148_48, en_25, en_100, en_130, en_131, hs.i, D_toldLast hs hN h7 hr, D_lastWriting hs hN h7 hr, Nat.reduceLT, Nat.reduceLeDiff, Nat.reduceAdd, Nat.reduceMul, lvH_Hq, Option.bind_some, psh_i, psh_n, Hq_G, Hq_setG, upf_same, upf_upf, b2_0, b2_1, b2_01, one_01, zero_01, le32, Classical.not_not, ite_not]
  unfold hLs
  by_cases c : hTl (hyC s) N r
  · rw [if_pos c, if_pos c]
  · rw [if_neg c, if_neg c]
    exact L_least hs hN h7 hr N 0 (by omega)
theorem L_safe (hs : St 170 (SF L) p q) {N r : Nat} (hN : s.H 6 = nI N) (h7 : N ≤ 7) (hr : r < 7) {x : Nat} : ∀ k j, j + k = N → (∀ i, i < j → ¬ hBs (hyC s) i r) → Rr 149 12 [.ref x, .ref p, .int (nI r), .int (nI j)] [] (HP L (upf g q (lay s))) = some (some (b2 (∃ w, w < N ∧ hBs (hyC s) w r)), HP L (upf g q (lay s)))
  | 0, j, h, hn => by
    have : j = N := by omega
    subst this
    rw [e149_12]
    simp only [e149_0, e149_1, e149_2, e149_5, e149_8, e149_9, e149_10, e149_11, e149_13, e149_14, e149_16, e149_19, e149_22, e149_23, e149_24, e149_25, e149_28, e149_31, e149_32, e149_33, e149_36, e149_39, e149_40, en_25, en_102, en_131, hs.i, D_get hs, hN, lvH_Hq, Option.bind_some, psh_i, psh_n, Hq_G, Hq_setG, upf_same, upf_upf, Nat.reduceLT, Nat.reduceLeDiff, Nat.reduceAdd, Nat.reduceMul, Int32.le_refl, if_true, zero_01]
    rw [r_b2, if_neg (fun ⟨w, hw, hb⟩ => hn w hw hb)]
  | k + 1, j, h, hn => by
    have hj : j < 7 := by omega
    have h1 : ¬ nI N ≤ nI j := nI_ge (by omega) (by omega)
    have ih := L_safe hs hN h7 hr (x := x) k (j + 1) (by omega)
    rw [e149_12]
    simp only [e149_0, e149_1, e149_2, e149_5, e149_8, e149_9, e149_10, e149_11, e149_13, e149_14, e149_16, e149_19, e149_22, e149_23, e149_24, e149_25, e149_28, e149_31, e149_32, e149_33, e149_36, e149_39, e149_40, en_25, en_102, en_131, hs.i, D_get hs, hN, D_writesBeside hs hj hr, Nat.reduceLT, Nat.reduceLeDiff, Nat.reduceAdd, Nat.reduceMul, lvH_Hq, Option.bind_some, psh_i, psh_n, Hq_G, Hq_setG, upf_same, upf_upf, b2_0, b2_1, b2_01, one_01, zero_01, le32, Classical.not_not, ite_not, h1, if_false, nI_add]
    by_cases c : hBs (hyC s) j r
    · rw [if_pos c, r_b2, if_pos ⟨j, by omega, c⟩]
    · rw [if_neg c]
      exact ih (fun i hi => by
        by_cases e : i = j
        · subst e; exact c
        · exact hn i (by omega))
theorem D_safe (hs : St 170 (SF L) p q) {N r x : Nat} (hN : s.H 6 = nI N) (h7 : N ≤ 7) (hr : r < 7) : Den 149 [.ref x, .ref p, .int (nI r)] (HP L (upf g q (lay s))) = some (some (b2 (hSf (hyC s) N r)), HP L (upf g q (lay s))) := by
  rw [D0_149, r_b2, if_o]
  simp only [e149_0, e149_1, e149_2, e149_5, e149_8, e149_9, e149_10, e149_11, e149_13, e149_14, e149_16, e149_19, e149_22, e149_23, e149_24, e149_25, e149_28, e149_31, e149_32, e149_33, e149_36, e149_39, e149_40, en_25, en_102, en_131, hs.i, D_toldLast hs hN h7 hr, Nat.reduceLT, Nat.reduceLeDiff, Nat.reduceAdd, Nat.reduceMul, lvH_Hq, Option.bind_some, psh_i, psh_n, Hq_G, Hq_setG, upf_same, upf_upf, b2_0, b2_1, b2_01, one_01, zero_01, le32, Classical.not_not, ite_not]
  by_cases c : hTl (hyC s) N r
  · rw [if_pos c, if_pos c]
  · rw [if_neg c, if_neg c, L_safe hs hN h7 hr N 0 (by omega) (fun i hi => absurd hi (by omega)), r_b2]
theorem D_regular (hs : St 170 (SF L) p q) {N r x : Nat} (hN : s.H 6 = nI N) (h7 : N ≤ 7) (hr : r < 7) : Den 164 [.ref x, .ref p, .int (nI r)] (HP L (upf g q (lay s))) = some (some (b2 (¬ hGs (hyC s) N r = -1)), HP L (upf g q (lay s))) := by
  rw [D0_164, r_b2]
  simp only [e164_0, e164_1, e164_2, e164_5, e164_6, e164_9, e164_10, e164_13, e164_14, en_147, hs.i, D_greatest hs hN h7 hr, Nat.reduceLT, Nat.reduceLeDiff, Nat.reduceAdd, Nat.reduceMul, lvH_Hq, Option.bind_some, psh_i, psh_n, Hq_G, Hq_setG, upf_same, upf_upf, b2_0, b2_1, b2_01, one_01, zero_01, le32, Classical.not_not, ite_not]
theorem wrs_1 : (nI (wrs s) = nI 1) = (wrs s = 1) := by
  unfold wrs
  split <;> decide
theorem D_judges (hs : St 170 (SF L) p q) {a x : Nat} (ha : a < 7) : Den 99 [.ref x, .ref p, .int (nI a)] (HP L (upf g q (lay s))) = some (some (b2 (hJd s a)), HP L (upf g q (lay s))) := by
  rw [D0_99, r_b2, if_an, if_an]
  simp only [e99_0, e99_1, e99_4, e99_5, e99_8, e99_9, e99_10, e99_13, e99_16, e99_17, e99_18, e99_21, e99_24, e99_25, e99_28, e99_29, en_57, en_59, en_71, hs.i, D_writers hs, D_isRead hs ha, D_hasEnded hs ha, Nat.reduceLT, Nat.reduceLeDiff, Nat.reduceAdd, Nat.reduceMul, lvH_Hq, Option.bind_some, psh_i, psh_n, Hq_G, Hq_setG, upf_same, upf_upf, b2_0, b2_1, b2_01, one_01, zero_01, le32, Classical.not_not, ite_not, wrs_1]
theorem L_goesBack (hs : St 170 (SF L) p q) {N r : Nat} (hN : s.H 6 = nI N) (h7 : N ≤ 7) (hr : r < 7) : ∀ k j, j + k = N → (∀ i, i < j → ¬ (hJd s i ∧ hAh (hyC s) i r ∧ hGs (hyC s) N r < hLs (hyC s) N i)) → Rr 163 16 [.ref 4, .ref p, .int (nI r), .int (hGs (hyC s) N r), .int (nI j)] [] (HP L (upf g q (lay s))) = some (some (b2 (∃ i, i < N ∧ (hJd s i ∧ hAh (hyC s) i r ∧ hGs (hyC s) N r < hLs (hyC s) N i))), HP L (upf g q (lay s)))
  | 0, j, h, hn => by
    have : j = N := by omega
    subst this
    rw [e163_16]
    simp only [e163_0, e163_1, e163_2, e163_5, e163_6, e163_7, e163_8, e163_11, e163_12, e163_13, e163_14, e163_18, e163_19, e163_21, e163_24, e163_27, e163_28, e163_29, e163_31, e163_34, e163_37, e163_38, e163_40, e163_41, e163_44, e163_47, e163_48, e163_49, e163_51, e163_54, e163_57, e163_58, e163_59, e163_62, e163_65, e163_66, en_25, en_58, en_99, en_147, en_148, hs.i, D_get hs, hN, lvH_Hq, Option.bind_some, psh_i, psh_n, Hq_G, Hq_setG, upf_same, upf_upf, Nat.reduceLT, Nat.reduceLeDiff, Nat.reduceAdd, Nat.reduceMul, Int32.le_refl, if_true, zero_01]
    rw [r_b2, if_neg (fun ⟨w, hw, hb⟩ => hn w hw hb)]
  | k + 1, j, h, hn => by
    have hj : j < 7 := by omega
    have h1 : ¬ nI N ≤ nI j := nI_ge (by omega) (by omega)
    have ih := L_goesBack hs hN h7 hr k (j + 1) (by omega)
    have ih := fun z => ih (fun i hi => by
        by_cases e : i = j
        · subst e; exact z
        · exact hn i (by omega))
    rw [e163_16]
    simp only [e163_0, e163_1, e163_2, e163_5, e163_6, e163_7, e163_8, e163_11, e163_12, e163_13, e163_14, e163_18, e163_19, e163_21, e163_24, e163_27, e163_28, e163_29, e163_31, e163_34, e163_37, e163_38, e163_40, e163_41, e163_44, e163_47, e163_48, e163_49, e163_51, e163_54, e163_57, e163_58, e163_59, e163_62, e163_65, e163_66, en_25, en_58, en_99, en_147, en_148, hs.i, i_4, D_get hs, hN, D_judges hs hj, D_isAhead hs hj hr, D_least hs hN h7 hj, Nat.reduceLT, Nat.reduceLeDiff, Nat.reduceAdd, Nat.reduceMul, lvH_Hq, Option.bind_some, psh_i, psh_n, Hq_G, Hq_setG, upf_same, upf_upf, b2_0, b2_1, b2_01, one_01, zero_01, le32, Classical.not_not, ite_not, h1, if_false, nI_add]
    by_cases c1 : hJd s j
    · by_cases c2 : hAh (hyC s) j r
      · by_cases c3 : hGs (hyC s) N r < hLs (hyC s) N j
        · rw [if_pos c1, if_pos c2, if_pos c3, r_b2, if_pos ⟨j, by omega, c1, c2, c3⟩]
        · rw [if_pos c1, if_pos c2, if_neg c3]
          exact ih (fun z => c3 z.2.2)
      · rw [if_pos c1, if_neg c2]
        exact ih (fun z => c2 z.2.1)
    · rw [if_neg c1]
      exact ih (fun z => c1 z.1)
theorem D_goesBack (hs : St 170 (SF L) p q) {N r : Nat} (hN : s.H 6 = nI N) (h7 : N ≤ 7) (hr : r < 7) : Den 163 [.ref 4, .ref p, .int (nI r)] (HP L (upf g q (lay s))) = some (some (b2 (hGb s N r)), HP L (upf g q (lay s))) := by
  rw [D0_163, r_b2, if_an, ite_not]
  simp only [e163_0, e163_1, e163_2, e163_5, e163_6, e163_7, e163_8, e163_11, e163_12, e163_13, e163_14, e163_18, e163_19, e163_21, e163_24, e163_27, e163_28, e163_29, e163_31, e163_34, e163_37, e163_38, e163_40, e163_41, e163_44, e163_47, e163_48, e163_49, e163_51, e163_54, e163_57, e163_58, e163_59, e163_62, e163_65, e163_66, en_25, en_58, en_99, en_147, en_148, hs.i, D_greatest hs hN h7 hr, Nat.reduceLT, Nat.reduceLeDiff, Nat.reduceAdd, Nat.reduceMul, lvH_Hq, Option.bind_some, psh_i, psh_n, Hq_G, Hq_setG, upf_same, upf_upf, b2_0, b2_1, b2_01, one_01, zero_01, le32, Classical.not_not, ite_not]
  by_cases c : hGs (hyC s) N r = -1
  · rw [if_pos c, if_pos c]
  · rw [if_neg c, if_neg c, L_goesBack hs hN h7 hr N 0 (by omega) (fun i hi => absurd hi (by omega)), r_b2]
theorem L_fNotSafe (hs : St 170 (SF L) p q) {N : Nat} (hN : s.H 6 = nI N) (h7 : N ≤ 7) : ∀ k j, j + k = N → Rr 162 2 [.ref 4, .ref p, .int (nI j)] [] (HP L (upf g q (lay s))) = some (some (fstF (fun r => hJd s r ∧ ¬ hSf (hyC s) N r) j k), HP L (upf g q (lay s)))
  | 0, j, h => by
    have : j = N := by omega
    subst this
    rw [e162_2]
    simp only [e162_0, e162_1, e162_3, e162_4, e162_6, e162_9, e162_12, e162_13, e162_14, e162_15, e162_18, e162_21, e162_22, e162_23, e162_24, e162_27, e162_30, e162_31, e162_32, e162_35, e162_38, e162_39, en_25, en_99, en_149, hs.i, D_get hs, hN, lvH_Hq, Option.bind_some, psh_i, psh_n, Hq_G, Hq_setG, upf_same, upf_upf, Nat.reduceLT, Nat.reduceLeDiff, Nat.reduceAdd, Nat.reduceMul, Int32.le_refl, if_true]
    rfl
  | k + 1, j, h => by
    have hj : j < 7 := by omega
    have h1 : ¬ nI N ≤ nI j := nI_ge (by omega) (by omega)
    have ih := L_fNotSafe hs hN h7 k (j + 1) (by omega)
    rw [e162_2]
    simp only [e162_0, e162_1, e162_3, e162_4, e162_6, e162_9, e162_12, e162_13, e162_14, e162_15, e162_18, e162_21, e162_22, e162_23, e162_24, e162_27, e162_30, e162_31, e162_32, e162_35, e162_38, e162_39, en_25, en_99, en_149, hs.i, i_4, D_get hs, hN, D_judges hs hj, D_safe hs hN h7 hj, Nat.reduceLT, Nat.reduceLeDiff, Nat.reduceAdd, Nat.reduceMul, lvH_Hq, Option.bind_some, psh_i, psh_n, Hq_G, Hq_setG, upf_same, upf_upf, b2_0, b2_1, b2_01, one_01, zero_01, le32, Classical.not_not, ite_not, h1, if_false, nI_add]
    rw [ih, fstF]
    by_cases c1 : hJd s j
    · by_cases c2 : hSf (hyC s) N j
      · rw [if_pos c1, if_pos c2, if_neg (fun z => z.2 c2)]
      · rw [if_pos c1, if_neg c2, if_pos ⟨c1, c2⟩]
    · rw [if_neg c1, if_neg (fun z => c1 z.1)]
theorem D_fNotSafe (hs : St 170 (SF L) p q) {N : Nat} (hN : s.H 6 = nI N) (h7 : N ≤ 7) : Den 162 [.ref 4, .ref p] (HP L (upf g q (lay s))) = some (some (fstF (fun r => hJd s r ∧ ¬ hSf (hyC s) N r) 0 N), HP L (upf g q (lay s))) := by
  rw [D0_162]
  simp only [e162_0, e162_1]
  exact L_fNotSafe hs hN h7 N 0 (by omega)
theorem L_fNotRegular (hs : St 170 (SF L) p q) {N : Nat} (hN : s.H 6 = nI N) (h7 : N ≤ 7) : ∀ k j, j + k = N → Rr 178 2 [.ref 4, .ref p, .int (nI j)] [] (HP L (upf g q (lay s))) = some (some (fstF (fun r => hJd s r ∧ hGs (hyC s) N r = -1) j k), HP L (upf g q (lay s)))
  | 0, j, h => by
    have : j = N := by omega
    subst this
    rw [e178_2]
    simp only [e178_0, e178_1, e178_3, e178_4, e178_6, e178_9, e178_12, e178_13, e178_14, e178_15, e178_18, e178_21, e178_22, e178_23, e178_24, e178_27, e178_30, e178_31, e178_32, e178_35, e178_38, e178_39, en_25, en_99, en_164, hs.i, D_get hs, hN, lvH_Hq, Option.bind_some, psh_i, psh_n, Hq_G, Hq_setG, upf_same, upf_upf, Nat.reduceLT, Nat.reduceLeDiff, Nat.reduceAdd, Nat.reduceMul, Int32.le_refl, if_true]
    rfl
  | k + 1, j, h => by
    have hj : j < 7 := by omega
    have h1 : ¬ nI N ≤ nI j := nI_ge (by omega) (by omega)
    have ih := L_fNotRegular hs hN h7 k (j + 1) (by omega)
    rw [e178_2]
    simp only [e178_0, e178_1, e178_3, e178_4, e178_6, e178_9, e178_12, e178_13, e178_14, e178_15, e178_18, e178_21, e178_22, e178_23, e178_24, e178_27, e178_30, e178_31, e178_32, e178_35, e178_38, e178_39, en_25, en_99, en_164, hs.i, i_4, D_get hs, hN, D_judges hs hj, D_regular hs hN h7 hj, Nat.reduceLT, Nat.reduceLeDiff, Nat.reduceAdd, Nat.reduceMul, lvH_Hq, Option.bind_some, psh_i, psh_n, Hq_G, Hq_setG, upf_same, upf_upf, b2_0, b2_1, b2_01, one_01, zero_01, le32, Classical.not_not, ite_not, h1, if_false, nI_add]
    rw [ih, fstF]
    by_cases c1 : hJd s j
    · by_cases c2 : hGs (hyC s) N j = -1
      · rw [if_pos c1, if_pos c2, if_pos ⟨c1, c2⟩]
      · rw [if_pos c1, if_neg c2, if_neg (fun z => c2 z.2)]
    · rw [if_neg c1, if_neg (fun z => c1 z.1)]
theorem D_fNotRegular (hs : St 170 (SF L) p q) {N : Nat} (hN : s.H 6 = nI N) (h7 : N ≤ 7) : Den 178 [.ref 4, .ref p] (HP L (upf g q (lay s))) = some (some (fstF (fun r => hJd s r ∧ hGs (hyC s) N r = -1) 0 N), HP L (upf g q (lay s))) := by
  rw [D0_178]
  simp only [e178_0, e178_1]
  exact L_fNotRegular hs hN h7 N 0 (by omega)
theorem L_fGoingBack (hs : St 170 (SF L) p q) {N : Nat} (hN : s.H 6 = nI N) (h7 : N ≤ 7) : ∀ k j, j + k = N → Rr 177 2 [.ref 4, .ref p, .int (nI j)] [] (HP L (upf g q (lay s))) = some (some (fstF (fun r => hJd s r ∧ hGb s N r) j k), HP L (upf g q (lay s)))
  | 0, j, h => by
    have : j = N := by omega
    subst this
    rw [e177_2]
    simp only [e177_0, e177_1, e177_3, e177_4, e177_6, e177_9, e177_12, e177_13, e177_14, e177_15, e177_18, e177_21, e177_22, e177_23, e177_24, e177_27, e177_30, e177_31, e177_32, e177_35, e177_38, e177_39, en_25, en_99, en_163, hs.i, D_get hs, hN, lvH_Hq, Option.bind_some, psh_i, psh_n, Hq_G, Hq_setG, upf_same, upf_upf, Nat.reduceLT, Nat.reduceLeDiff, Nat.reduceAdd, Nat.reduceMul, Int32.le_refl, if_true]
    rfl
  | k + 1, j, h => by
    have hj : j < 7 := by omega
    have h1 : ¬ nI N ≤ nI j := nI_ge (by omega) (by omega)
    have ih := L_fGoingBack hs hN h7 k (j + 1) (by omega)
    rw [e177_2]
    simp only [e177_0, e177_1, e177_3, e177_4, e177_6, e177_9, e177_12, e177_13, e177_14, e177_15, e177_18, e177_21, e177_22, e177_23, e177_24, e177_27, e177_30, e177_31, e177_32, e177_35, e177_38, e177_39, en_25, en_99, en_163, hs.i, i_4, D_get hs, hN, D_judges hs hj, D_goesBack hs hN h7 hj, Nat.reduceLT, Nat.reduceLeDiff, Nat.reduceAdd, Nat.reduceMul, lvH_Hq, Option.bind_some, psh_i, psh_n, Hq_G, Hq_setG, upf_same, upf_upf, b2_0, b2_1, b2_01, one_01, zero_01, le32, Classical.not_not, ite_not, h1, if_false, nI_add]
    rw [ih, fstF]
    by_cases c1 : hJd s j
    · by_cases c2 : hGb s N j
      · rw [if_pos c1, if_pos c2, if_pos ⟨c1, c2⟩]
      · rw [if_pos c1, if_neg c2, if_neg (fun z => c2 z.2)]
    · rw [if_neg c1, if_neg (fun z => c1 z.1)]
theorem D_fGoingBack (hs : St 170 (SF L) p q) {N : Nat} (hN : s.H 6 = nI N) (h7 : N ≤ 7) : Den 177 [.ref 4, .ref p] (HP L (upf g q (lay s))) = some (some (fstF (fun r => hJd s r ∧ hGb s N r) 0 N), HP L (upf g q (lay s))) := by
  rw [D0_177]
  simp only [e177_0, e177_1]
  exact L_fGoingBack hs hN h7 N 0 (by omega)
end JJ
