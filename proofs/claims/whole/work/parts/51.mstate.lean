/-! THE MODEL: small methods -/
section MM
variable {L : Nat} {g : Nat → Nat → Int32} {s : Sx} {f : Nat → Int32}
theorem M_of {a k : Nat} : Den 11 [.ref 86, .int (nI a), .int (nI k)] (HP L g) = some (some (nI (17 + 18 * a + k)), HP L g) := by
  rw [D0_11]
  simp only [e11_0, e11_2, e11_4, e11_5, e11_6, e11_7, e11_8, e11_9, pk_mul, nI_add]
theorem M_ofAct {a k : Nat} : Den 12 [.ref 86, .int (nI a), .int (nI k)] (HP L g) = some (some (nI (107 + 5 * a + k)), HP L g) := by
  rw [D0_12]
  simp only [e12_0, e12_2, e12_3, e12_4, e12_5, e12_6, e12_7, e12_8, pk_mul, nI_add]
theorem M_its {a k : Nat} (ha : a < 5) (hk : k < 18) : Den 42 [.ref 86, .int (nI a), .int (nI k)] (HM L g s f) = some (some (s.P a k), HM L g s f) := by
  rw [D0_42]
  simp only [e42_0, e42_1, e42_4, e42_5, e42_6, e42_7, e42_10, e42_11, en_11, i_86, f_86_0, M_of, a_87, n_87, in_P ha hk, rM_P ha hk, not_false_eq_true, lvH_Hq, Option.bind_some, psh_i, psh_n, Hq_G, Hq_setG, upf_same, upf_upf]
theorem M_writers : Den 15 [.ref 86] (HM L g s f) = some (some (nI (wrs s)), HM L g s f) := by
  rw [D0_15]
  simp only [e15_0, e15_1, e15_4, e15_5, e15_6, e15_7, e15_10, e15_11, e15_14, e15_15, i_86, f_86_0, a_87, n_87, in_H, rM_H, Nat.reduceLT, Nat.reduceLeDiff, Nat.reduceAdd, Nat.reduceMul, not_false_eq_true, Hq_G, upf_same]
  unfold wrs
  split <;> simp_all
theorem M_processes : Den 46 [.ref 86] (HM L g s f) = some (some (prcs s), HM L g s f) := by
  rw [D0_46]
  simp only [e46_0, e46_1, e46_4, e46_5, e46_8, e46_9, e46_10, e46_11, en_15, i_86, f_86_0, a_87, n_87, in_H, rM_H, Nat.reduceLT, Nat.reduceLeDiff, Nat.reduceAdd, Nat.reduceMul, M_writers, not_false_eq_true, lvH_Hq, Option.bind_some, psh_i, psh_n, Hq_G, Hq_setG, upf_same, upf_upf]
  rfl
theorem M_cells : Den 7 [.ref 86] (HM L g s f) = some (some (clls s), HM L g s f) := by
  rw [D0_7]
  simp only [e7_0, e7_1, e7_4, e7_5, e7_6, e7_7, e7_8, e7_11, e7_12, e7_13, e7_44, e7_45, e7_48, e7_49, e7_50, e7_51, e7_52, e7_53, e7_54, e7_55, e7_56, e7_57, e7_58, i_86, f_86_0, a_87, n_87, in_H, rM_H, Nat.reduceLT, Nat.reduceLeDiff, Nat.reduceAdd, Nat.reduceMul, not_false_eq_true, lvH_Hq, Option.bind_some, psh_i, psh_n, Hq_G, Hq_setG, upf_same, upf_upf]
  unfold clls
  repeat' split
  all_goals simp_all [-Int32.not_lt, -Int32.not_le, K01, K02, K03, K04, K05, K10, K12, K13, K14, K15, K20, K21, K23, K24, K25, K30, K31, K32, K34, K35, K40, K41, K42, K43, K45, K50, K51, K52, K53, K54, K00]
theorem M_isWriter {a : Nat} (ha : a < 5) : Den 41 [.ref 86, .int (nI a)] (HM L g s f) = some (some (b2 (a < wrs s)), HM L g s f) := by
  have hw : wrs s < 5 := by
    unfold wrs
    split <;> omega
  rw [D0_41, r_b2]
  simp only [e41_0, e41_1, e41_2, e41_5, e41_8, e41_9, e41_12, e41_13, en_15, i_86, M_writers, Nat.reduceLT, Nat.reduceLeDiff, Nat.reduceAdd, Nat.reduceMul, lvH_Hq, Option.bind_some, psh_i, psh_n, Hq_G, Hq_setG, upf_same, upf_upf, b2_0, b2_1, b2_01, one_01, zero_01, le32, Classical.not_not, ite_not]
  by_cases h : a < wrs s
  · rw [if_pos (nI_lt h (by omega)), if_pos h]
  · rw [if_neg (nI_nlt (by omega) (by omega)), if_neg h]
theorem M_value {a : Nat} (ha : a < 5) (hA : Ix 7 (s.P a 0)) : Den 93 [.ref 86, .int (nI a)] (HM L g s f) = some (some (valW s a), HM L g s f) := by
  obtain ⟨k, hk, hA⟩ := hA
  rw [D0_93]
  simp only [e93_0, e93_1, e93_4, e93_5, e93_6, e93_7, e93_8, e93_11, e93_12, e93_15, e93_16, en_12, en_42, i_86, f_86_0, a_87, n_87, M_its ha, M_ofAct, hA, in_A hk, rM_A hk, Nat.reduceLT, Nat.reduceLeDiff, Nat.reduceAdd, Nat.reduceMul, not_false_eq_true, lvH_Hq, Option.bind_some, psh_i, psh_n, Hq_G, Hq_setG, upf_same, upf_upf]
  unfold valW
  rw [hA, ix_nI (by omega)]
theorem M_accesses {a : Nat} (ha : a < 5) {v : Int32} : Den 78 [.ref 86, .int (nI a), .int v] (HM L g s f) = some (some (mAcc s a v), HM L g s f) := by
  rw [D0_78]
  simp only [e78_0, e78_1, e78_4, e78_5, e78_6, e78_7, e78_8, e78_11, e78_12, e78_13, e78_14, e78_17, e78_18, e78_21, e78_22, e78_24, e78_25, e78_28, e78_29, e78_30, e78_60, e78_61, e78_62, e78_65, e78_68, e78_70, e78_73, e78_74, e78_77, e78_78, e78_79, e78_82, e78_83, e78_84, e78_85, e78_86, e78_87, e78_88, e78_91, e78_94, e78_95, e78_98, e78_100, e78_103, e78_104, e78_107, e78_108, e78_109, e78_110, e78_111, e78_112, e78_113, e78_114, e78_115, e78_118, e78_121, e78_122, e78_125, e78_127, e78_130, e78_131, e78_134, e78_135, e78_136, e78_137, en_41, i_86, f_86_0, a_87, n_87, in_H, rM_H, M_isWriter ha, not_false_eq_true, Nat.reduceLT, Nat.reduceLeDiff, Nat.reduceAdd, Nat.reduceMul, lvH_Hq, Option.bind_some, psh_i, psh_n, Hq_G, Hq_setG, upf_same, upf_upf, b2_0, b2_1, b2_01, one_01, zero_01, le32, Classical.not_not, ite_not]
  unfold mAcc
  by_cases h1 : s.H 1 = nI 1
  · simp only [h1, if_true, one_n0, if_false]
    repeat' split
    all_goals simp_all [-Int32.not_lt, -Int32.not_le, K01, K02, K03, K04, K05, K10, K12, K13, K14, K15, K20, K21, K23, K24, K25, K30, K31, K32, K34, K35, K40, K41, K42, K43, K45, K50, K51, K52, K53, K54, K00]
  · simp only [h1, if_false, K00, if_true]
    repeat' split
    all_goals simp_all [-Int32.not_lt, -Int32.not_le, K01, K02, K03, K04, K05, K10, K12, K13, K14, K15, K20, K21, K23, K24, K25, K30, K31, K32, K34, K35, K40, K41, K42, K43, K45, K50, K51, K52, K53, K54, K00]
theorem M_isWriting {a : Nat} (ha : a < 5) : Den 87 [.ref 86, .int (nI a)] (HM L g s f) = some (some (b2 (mWt s a)), HM L g s f) := by
  rw [D0_87, r_b2]
  simp only [e87_0, e87_1, e87_2, e87_3, e87_6, e87_7, e87_8, e87_9, e87_12, e87_15, e87_16, e87_19, e87_20, e87_21, e87_22, e87_25, e87_26, e87_27, e87_28, e87_29, e87_32, e87_33, e87_34, e87_37, e87_38, e87_41, e87_42, e87_43, e87_44, e87_47, e87_48, e87_49, e87_50, e87_53, e87_54, e87_55, e87_58, e87_59, e87_60, e87_63, e87_64, e87_67, e87_68, en_41, en_42, i_86, f_86_0, a_87, n_87, in_H, rM_H, M_its ha, M_isWriter ha, not_false_eq_true, Nat.reduceLT, Nat.reduceLeDiff, Nat.reduceAdd, Nat.reduceMul, lvH_Hq, Option.bind_some, psh_i, psh_n, Hq_G, Hq_setG, upf_same, upf_upf, b2_0, b2_1, b2_01, one_01, zero_01, le32, Classical.not_not, ite_not]
  by_cases h1 : a < wrs s
  · by_cases h2 : s.H 0 = nI 5
    · by_cases h3 : s.P a 1 = s.P a 5 - nI 1 <;> simp only [mWt, h1, h2, h3, if_true, if_false, not_true_eq_false, false_or]
    · simp only [mWt, h1, h2, if_true, if_false, not_false_eq_true, true_or]
  · by_cases h2 : s.H 0 = nI 4
    · by_cases h3 : s.P a 1 < s.H 4
      · simp only [mWt, h1, h2, h3, if_true, if_false, le32, not_true_eq_false, and_false]
      · simp only [mWt, h1, h2, h3, if_true, if_false, le32, not_false_eq_true, and_self]
    · simp only [mWt, h1, h2, if_true, if_false, false_and]
theorem M_between {n i j : Int32} (h : layM s f 4 = n) : Den 6 [.ref 86, .int i, .int j] (HM L g s f) = some (some (mBtw n i j), HM L g s f) := by
  have h4 : s.H 4 = n := (layM_H (by omega)).symm.trans h
  rw [D0_6]
  simp only [e6_0, e6_1, e6_4, e6_5, e6_6, e6_7, e6_8, e6_9, e6_10, e6_11, e6_12, e6_13, e6_14, e6_15, e6_16, e6_19, e6_20, e6_23, e6_24, e6_25, e6_26, e6_27, i_86, f_86_0, a_87, n_87, in_H, rM_H, h4, not_false_eq_true, Nat.reduceLT, Nat.reduceLeDiff, Nat.reduceAdd, Nat.reduceMul, lvH_Hq, Option.bind_some, psh_i, psh_n, Hq_G, Hq_setG, upf_same, upf_upf, b2_0, b2_1, b2_01, one_01, zero_01, le32, Classical.not_not, ite_not]
  unfold mBtw
  split <;> rfl
theorem M_cellOfReader {a : Nat} (ha : a < 5) : Den 80 [.ref 86, .int (nI a)] (HM L g s f) = some (some (mCR s a), HM L g s f) := by
  rw [D0_80]
  simp only [e80_0, e80_1, e80_2, e80_3, e80_6, e80_7, e80_8, e80_9, e80_12, e80_13, e80_14, e80_15, e80_18, e80_19, e80_20, e80_52, e80_53, e80_54, e80_55, e80_58, e80_59, e80_62, e80_63, e80_64, e80_67, e80_68, e80_69, e80_72, e80_73, e80_74, e80_75, e80_76, e80_77, e80_80, e80_81, e80_82, e80_83, e80_86, e80_87, e80_88, e80_91, e80_94, e80_95, e80_98, e80_99, e80_100, e80_101, e80_102, e80_105, e80_106, e80_107, e80_108, e80_109, e80_110, e80_111, e80_112, e80_113, e80_114, e80_117, e80_118, e80_119, e80_120, e80_121, e80_122, en_6, en_15, en_42, i_86, f_86_0, a_87, n_87, in_H, rM_H, M_its ha, M_writers, M_between (layM_H (by omega)), not_false_eq_true, Nat.reduceLT, Nat.reduceLeDiff, Nat.reduceAdd, Nat.reduceMul, lvH_Hq, Option.bind_some, psh_i, psh_n, Hq_G, Hq_setG, upf_same, upf_upf, b2_0, b2_1, b2_01, one_01, zero_01, le32, Classical.not_not, ite_not]
  unfold mCR
  repeat' split
  all_goals simp_all [-Int32.not_lt, -Int32.not_le, K01, K02, K03, K04, K05, K10, K12, K13, K14, K15, K20, K21, K23, K24, K25, K30, K31, K32, K34, K35, K40, K41, K42, K43, K45, K50, K51, K52, K53, K54, K00]
end MM
