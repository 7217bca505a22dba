/-! class Steps -/
section ST
variable {n : Nat} {S : Nat → Shp} {g : Nat → Nat → Int32} {p q : Nat} {s : Sx}
theorem K100 : (nI 100 = 0) = False := by decide
theorem KA0 : (nI 10 = 0) = False := by decide
theorem D_tick (hs : St n S p q) : Den 73 [.ref p] (Hq n S (upf g q (lay s))) = some (none, Hq n S (upf g q (lay (tick s)))) := by
  rw [D0_73]
  simp only [e73_0, e73_1, e73_2, e73_3, e73_4, e73_7, e73_8, e73_9, e73_12, en_25, en_30, hs.i, D_get hs, D_put hs, Nat.reduceLT, Nat.reduceLeDiff, Nat.reduceAdd, Nat.reduceMul, lvH_Hq, Option.bind_some, psh_i, psh_n, Hq_G, Hq_setG, upf_same, upf_upf, b2_0, b2_1, b2_01, one_01, zero_01, le32, Classical.not_not, ite_not]
  rfl
theorem kpNw_H {a : Nat} {x : Int32} : (kpNw s a x).H = s.H := by
  unfold kpNw
  split <;> rfl
theorem D_keepNewer (hs : St n S p q) {a : Nat} (ha : a < 5) {x : Int32} : Den 115 [.ref p, .int (nI a), .int x] (Hq n S (upf g q (lay s))) = some (none, Hq n S (upf g q (lay (kpNw s a x)))) := by
  rw [D0_115]
  simp only [e115_0, e115_1, e115_3, e115_4, e115_5, e115_6, e115_7, e115_10, e115_12, e115_13, e115_16, e115_17, e115_18, e115_19, e115_20, e115_23, en_28, en_68, hs.i, D_of hs ha, D_set hs ha, Nat.reduceLT, Nat.reduceLeDiff, Nat.reduceAdd, Nat.reduceMul, lvH_Hq, Option.bind_some, psh_i, psh_n, Hq_G, Hq_setG, upf_same, upf_upf, b2_0, b2_1, b2_01, one_01, zero_01, le32, Classical.not_not, ite_not, K100, not_false_eq_true]
  unfold kpNw
  simp only [le32, ite_not]
  split <;> rfl
theorem D_putDown (hs : St n S p q) {a : Nat} (ha : a < 5) (hC : Ix 9 (s.P a 3)) : Den 116 [.ref p, .int (nI a)] (Hq n S (upf g q (lay s))) = some (none, Hq n S (upf g q (lay (putD s a)))) := by
  obtain ⟨c, hc, hC⟩ := hC
  have e : ix (s.P a 3) = c := by rw [hC, ix_nI (by omega)]
  rw [D0_116]
  simp only [e116_0, e116_1, e116_2, e116_4, e116_7, e116_8, e116_9, e116_10, e116_11, e116_12, e116_15, e116_16, e116_19, e116_20, e116_21, e116_24, e116_25, e116_28, e116_29, e116_30, e116_31, e116_32, e116_34, e116_35, e116_38, en_25, en_28, en_64, en_68, hs.i, D_get hs, D_of hs ha, hC, D_hold hs hc, D_set hs ha, Nat.reduceLT, Nat.reduceLeDiff, Nat.reduceAdd, Nat.reduceMul, lvH_Hq, Option.bind_some, psh_i, psh_n, Hq_G, Hq_setG, upf_same, upf_upf, b2_0, b2_1, b2_01, one_01, zero_01, le32, Classical.not_not, ite_not, K100, not_false_eq_true]
  unfold putD
  rw [e]
  simp only [sC_H]
  by_cases h5 : s.H 0 = nI 5
  · simp only [h5, not_true_eq_false, if_false, if_true]
  · simp only [h5, not_false_eq_true, if_false, if_true]
theorem D_numberGot (hs : St n S p q) {a : Nat} (ha : a < 5) (hC : Ix 9 (s.P a 3)) {x : Int32} (hx : Ix 8 x) : Den 72 [.ref p, .int (nI a), .int x] (Hq n S (upf g q (lay s))) = some (some (numG s a x), Hq n S (upf g q (lay s))) := by
  obtain ⟨c, hc, hC⟩ := hC
  obtain ⟨j, hj, hx⟩ := hx
  have e : ix (s.P a 3) = c := by rw [hC, ix_nI (by omega)]
  have e2 : ix x = j := by rw [hx, ix_nI (by omega)]
  have e3 : 11 + j < 19 := by omega
  rw [D0_72]
  unfold numG
  rw [e, e2, hx]
  simp only [e72_0, e72_1, e72_2, e72_5, e72_6, e72_7, e72_8, e72_11, e72_12, e72_13, e72_14, e72_15, e72_18, e72_21, e72_22, e72_23, e72_26, e72_27, e72_28, e72_30, e72_33, e72_34, e72_37, e72_38, e72_41, e72_42, e72_44, e72_46, e72_49, e72_50, e72_53, e72_54, e72_55, e72_57, e72_58, e72_59, e72_62, en_25, en_26, en_28, hs.i, D_get hs, D_of hs ha, hC, D_held hs hc, Nat.reduceLT, Nat.reduceLeDiff, Nat.reduceAdd, Nat.reduceMul, lvH_Hq, Option.bind_some, psh_i, psh_n, Hq_G, Hq_setG, upf_same, upf_upf, b2_0, b2_1, b2_01, one_01, zero_01, le32, Classical.not_not, ite_not, nI_add, e3]
  have k1 : ¬ (nI 1 : Int32) = 0 := by decide
  have k2 : ¬ (nI 2 : Int32) = 0 := by decide
  simp only [nI_0]
  by_cases h2 : s.H 2 = nI 2
  · simp only [h2, if_true]
  · by_cases h0 : s.H 2 = 0
    · by_cases h9 : s.P a 9 = nI 1
      · simp only [h2, h0, h9, k1, if_true, if_false, and_self, not_true_eq_false, not_false_eq_true]
        rw [if_neg (fun z => k2 z.symm), if_neg (fun z => k2 z.symm)]
      · simp only [h2, h0, h9, if_true, if_false, and_false, not_true_eq_false, not_false_eq_true]
        rw [if_neg (fun z => k2 z.symm), if_neg (fun z => k2 z.symm)]
    · simp only [h2, h0, if_true, if_false, false_and, not_true_eq_false, not_false_eq_true]
theorem D_takeIn (hs : St n S p q) {a : Nat} (ha : a < 5) {x : Int32} : Den 135 [.ref p, .int (nI a), .int x] (Hq n S (upf g q (lay s))) = some (none, Hq n S (upf g q (lay (tkIn s a x)))) := by
  rw [D0_135]
  simp only [e135_0, e135_1, e135_2, e135_3, e135_6, e135_7, e135_8, e135_9, e135_11, e135_14, e135_16, e135_17, e135_18, e135_21, e135_52, e135_53, e135_54, e135_56, e135_57, e135_60, e135_61, e135_62, e135_65, e135_66, e135_67, e135_68, e135_69, e135_70, e135_71, e135_74, e135_77, e135_78, e135_81, e135_84, e135_85, e135_86, e135_87, e135_90, e135_91, e135_92, e135_94, e135_95, e135_98, e135_101, e135_102, e135_105, e135_106, e135_107, e135_108, e135_111, e135_114, e135_117, e135_118, e135_119, e135_121, e135_122, e135_124, e135_127, e135_130, e135_131, e135_134, e135_137, e135_138, e135_139, e135_140, e135_143, e135_144, e135_145, e135_148, e135_149, e135_150, e135_151, e135_152, e135_154, e135_157, e135_160, e135_163, e135_164, e135_165, e135_167, e135_168, e135_170, e135_173, e135_176, e135_179, e135_180, e135_181, e135_183, e135_184, e135_187, en_25, en_28, en_65, en_68, en_115, hs.i, D_get hs, D_isPoor hs, D_of hs ha, D_set hs ha, D_keepNewer hs ha, Nat.reduceLT, Nat.reduceLeDiff, Nat.reduceAdd, Nat.reduceMul, lvH_Hq, Option.bind_some, psh_i, psh_n, Hq_G, Hq_setG, upf_same, upf_upf, b2_0, b2_1, b2_01, one_01, zero_01, le32, Classical.not_not, ite_not]
  unfold tkIn mx
  simp only [sP_H, sP_P]
  by_cases h2 : s.H 0 = nI 2
  · simp only [h2, K01, K02, K03, K04, K05, K10, K12, K13, K14, K15, K20, K21, K23, K24, K25, K30, K31, K32, K34, K35, K40, K41, K42, K43, K45, K50, K51, K52, K53, K54, K00, if_true, if_false]
    by_cases hx : x = nI 1 <;> simp only [hx, if_true, if_false]
  · by_cases h3 : s.H 0 = nI 3
    · simp only [h2, h3, K01, K02, K03, K04, K05, K10, K12, K13, K14, K15, K20, K21, K23, K24, K25, K30, K31, K32, K34, K35, K40, K41, K42, K43, K45, K50, K51, K52, K53, K54, K00, if_true, if_false]
      by_cases hx : s.H 1 = nI 1 <;> simp only [hx, kpNw_H, if_true, if_false]
    · by_cases h4 : s.H 0 = nI 4
      · simp only [h2, h3, h4, K01, K02, K03, K04, K05, K10, K12, K13, K14, K15, K20, K21, K23, K24, K25, K30, K31, K32, K34, K35, K40, K41, K42, K43, K45, K50, K51, K52, K53, K54, K00, if_true, if_false]
        by_cases hx : s.H 1 = nI 1 <;> by_cases hy : s.P a 1 = s.H 4 - nI 1 <;> simp only [hx, hy, if_true, if_false, or_true, true_or, or_false, false_or]
      · by_cases h5 : s.H 0 = nI 5
        · simp only [h2, h3, h4, h5, K01, K02, K03, K04, K05, K10, K12, K13, K14, K15, K20, K21, K23, K24, K25, K30, K31, K32, K34, K35, K40, K41, K42, K43, K45, K50, K51, K52, K53, K54, K00, if_true, if_false]
        · simp only [h2, h3, h4, h5, K01, K02, K03, K04, K05, K10, K12, K13, K14, K15, K20, K21, K23, K24, K25, K30, K31, K32, K34, K35, K40, K41, K42, K43, K45, K50, K51, K52, K53, K54, K00, if_true, if_false]
theorem D_finish (hs : St n S p q) {a : Nat} (ha : a < 5) (hA : Ix 7 (s.P a 0)) : Den 113 [.ref p, .int (nI a)] (Hq n S (upf g q (lay s))) = some (none, Hq n S (upf g q (lay (fini s a)))) := by
  obtain ⟨k, hk, hA⟩ := hA
  have e : ix (s.P a 0) = k := by rw [hA, ix_nI (by omega)]
  rw [D0_113]
  simp only [e113_0, e113_1, e113_2, e113_3, e113_6, e113_7, e113_8, e113_9, e113_12, e113_15, e113_16, e113_17, e113_18, e113_19, e113_20, e113_22, e113_25, e113_27, e113_28, e113_31, e113_32, e113_33, e113_34, e113_35, e113_36, e113_39, e113_42, e113_43, e113_44, e113_45, e113_46, e113_49, e113_50, e113_51, e113_52, e113_53, e113_56, en_25, en_28, en_67, en_68, en_69, hs.i, D_get hs, D_isWriter hs ha, D_of hs ha, hA, D_setAct hs hk, D_set hs ha, Nat.reduceLT, Nat.reduceLeDiff, Nat.reduceAdd, Nat.reduceMul, lvH_Hq, Option.bind_some, psh_i, psh_n, Hq_G, Hq_setG, upf_same, upf_upf, b2_0, b2_1, b2_01, one_01, zero_01, le32, Classical.not_not, ite_not, KA0, not_false_eq_true]
  unfold fini
  rw [e]
  simp only [sA_H]
  split <;> rfl
theorem D_keepAtStart (hs : St n S p q) {a : Nat} (ha : a < 5) {v : Int32} : Den 114 [.ref p, .int (nI a), .int v] (Hq n S (upf g q (lay s))) = some (none, Hq n S (upf g q (lay (kpSt s a v)))) := by
  rw [D0_114]
  simp only [e114_0, e114_1, e114_2, e114_5, e114_6, e114_7, e114_8, e114_9, e114_12, e114_14, e114_15, e114_16, e114_19, e114_21, e114_22, e114_23, e114_25, e114_26, e114_27, e114_30, e114_32, e114_35, e114_37, e114_40, e114_41, e114_44, e114_46, e114_49, e114_50, e114_51, e114_54, e114_55, e114_56, e114_57, e114_58, e114_61, e114_63, e114_66, e114_67, e114_68, e114_71, e114_72, e114_73, e114_76, e114_77, e114_78, e114_79, e114_81, e114_82, e114_83, e114_86, en_25, en_28, en_67, en_68, hs.i, D_get hs, D_isWriter hs ha, D_of hs ha, D_set hs ha, Nat.reduceLT, Nat.reduceLeDiff, Nat.reduceAdd, Nat.reduceMul, lvH_Hq, Option.bind_some, psh_i, psh_n, Hq_G, Hq_setG, upf_same, upf_upf, b2_0, b2_1, b2_01, one_01, zero_01, le32, Classical.not_not, ite_not]
  unfold kpSt
  repeat' split
  all_goals simp_all [-Int32.not_lt, -Int32.not_le, K01, K02, K03, K04, K05, K10, K12, K13, K14, K15, K20, K21, K23, K24, K25, K30, K31, K32, K34, K35, K40, K41, K42, K43, K45, K50, K51, K52, K53, K54, K00]
theorem D_choices (hs : St n S p q) {a : Nat} (ha : a < 5) : Den 112 [.ref p, .int (nI a)] (Hq n S (upf g q (lay s))) = some (some (chsC s a), Hq n S (upf g q (lay s))) := by
  rw [D0_112]
  simp only [e112_0, e112_1, e112_2, e112_5, e112_8, e112_9, e112_10, e112_11, e112_12, e112_13, e112_16, e112_19, e112_20, e112_21, e112_23, e112_26, e112_29, e112_30, e112_31, e112_32, e112_33, e112_36, e112_39, e112_40, e112_41, e112_43, e112_46, e112_47, e112_48, e112_49, e112_51, e112_54, e112_57, e112_58, e112_59, e112_60, e112_61, e112_64, e112_65, e112_68, e112_69, e112_72, e112_73, e112_74, e112_77, en_25, en_28, en_66, hs.i, D_get hs, D_isUnderWay hs ha, D_of hs ha, D_set hs ha, Nat.reduceLT, Nat.reduceLeDiff, Nat.reduceAdd, Nat.reduceMul, lvH_Hq, Option.bind_some, psh_i, psh_n, Hq_G, Hq_setG, upf_same, upf_upf, b2_0, b2_1, b2_01, one_01, zero_01, le32, Classical.not_not, ite_not]
  unfold chsC
  repeat' split
  all_goals simp_all [-Int32.not_lt, -Int32.not_le, K01, K02, K03, K04, K05, K10, K12, K13, K14, K15, K20, K21, K23, K24, K25, K30, K31, K32, K34, K35, K40, K41, K42, K43, K45, K50, K51, K52, K53, K54, K00]
theorem L_addNumber (hs : St n S p q) {a c : Nat} (ha : a < 5) (hc : c ≤ 8) {x : Int32} : ∀ k j, j + k = c → (∀ i, i < j → ¬ s.P a (11 + i) = x) → Rr 111 22 [.ref p, .int (nI a), .int x, .int (nI c), .int (nI j)] [] (Hq n S (upf g q (lay s))) = if ∃ i, i < c ∧ s.P a (11 + i) = x then some (none, Hq n S (upf g q (lay s))) else Rr 111 49 [.ref p, .int (nI a), .int x, .int (nI c), .int (nI c)] [] (Hq n S (upf g q (lay s)))
  | 0, j, h, hn => by
    have : j = c := by omega
    subst this
    rw [if_neg (fun ⟨i, hi, z⟩ => hn i hi z), e111_22]
    simp only [e111_24, e111_25, Int32.le_refl, if_true]
  | k + 1, j, h, hn => by
    have h1 : ¬ nI c ≤ nI j := nI_ge (by omega) (by omega)
    have h3 : 11 + j < 19 := by omega
    rw [e111_22]
    simp only [e111_24, e111_25, e111_28, e111_29, e111_30, e111_32, e111_34, e111_35, e111_38, e111_39, e111_42, e111_43, e111_46, en_28, h1, if_false, hs.i, D_of hs ha, h3, lvH_Hq, Option.bind_some, psh_i, psh_n, Hq_G, Hq_setG, upf_same, upf_upf, nI_add]
    by_cases h2 : s.P a (11 + j) = x
    · rw [if_neg (fun z => z h2), if_pos ⟨j, by omega, h2⟩]
    · rw [if_pos h2]
      exact L_addNumber hs ha hc k (j + 1) (by omega) (fun i hi => by
        by_cases e : i = j
        · subst e; exact h2
        · exact hn i (by omega))
theorem D_addNumber (hs : St n S p q) {a : Nat} (ha : a < 5) {x : Int32} : Den 111 [.ref p, .int (nI a), .int x] (Hq n S (upf g q (lay s))) = some (none, Hq n S (upf g q (lay (addN s a x)))) := by
  rw [D0_111]
  simp only [e111_0, e111_1, e111_2, e111_4, e111_7, e111_8, e111_9, e111_12, e111_13, e111_15, e111_18, e111_19, e111_20, en_28, hs.i, D_of hs ha, Nat.reduceLT, Nat.reduceLeDiff, Nat.reduceAdd, Nat.reduceMul, lvH_Hq, Option.bind_some, psh_i, psh_n, Hq_G, Hq_setG, upf_same, upf_upf, b2_0, b2_1, b2_01, one_01, zero_01, le32, Classical.not_not, ite_not]
  unfold addN
  by_cases h0 : s.P a 10 < 0
  · rw [if_pos h0, if_pos (Or.inl h0)]
  · rw [if_neg h0]
    by_cases h8 : s.P a 10 < nI 8
    · rw [if_pos h8, if_neg (fun z => z.elim h0 (fun z => Int32.not_lt.mpr z h8))]
      obtain ⟨c, _, hc⟩ := nI_of h0
      have h9 : c < 8 := by
        rw [hc] at h8
        exact (nI_ltI (by omega) (by omega)).mp h8
      have e : ix (s.P a 10) = c := by rw [hc, ix_nI (by omega)]
      have h3 : 11 + c < 19 := by omega
      rw [hc, L_addNumber hs ha (by omega) c 0 (by omega) (fun i hi => absurd hi (by omega))]
      rw [ix_nI (by omega)]
      congr 1
      simp only [e111_0, e111_1, e111_2, e111_4, e111_7, e111_8, e111_9, e111_12, e111_13, e111_15, e111_18, e111_19, e111_20, e111_24, e111_25, e111_28, e111_29, e111_30, e111_32, e111_34, e111_35, e111_38, e111_39, e111_42, e111_43, e111_46, e111_49, e111_50, e111_51, e111_53, e111_54, e111_55, e111_56, e111_59, e111_60, e111_61, e111_63, e111_64, e111_65, e111_66, e111_69, en_28, en_68, hs.i, D_set hs ha, nI_add, h3, Nat.reduceLT, Nat.reduceLeDiff, Nat.reduceAdd, Nat.reduceMul, lvH_Hq, Option.bind_some, psh_i, psh_n, Hq_G, Hq_setG, upf_same, upf_upf, b2_0, b2_1, b2_01, one_01, zero_01, le32, Classical.not_not, ite_not]
      split <;> rfl
    · rw [if_neg h8, if_pos (Or.inr (Int32.not_lt.mp h8))]
end ST
