/-! THE MODEL: accesses -/
section MM
variable {L : Nat} {g : Nat → Nat → Int32} {s : Sx} {f : Nat → Int32}
theorem M_cellOfWriter {a : Nat} (ha : a < 5) (hA : Ix 7 (s.P a 0)) : Den 122 [.ref 86, .int (nI a)] (HM L g s f) = some (some (mCW s a), HM L g s f) := by
  rw [D0_122]
  simp only [e122_0, e122_1, e122_2, e122_3, e122_6, e122_7, e122_8, e122_9, e122_12, e122_13, e122_14, e122_17, e122_18, e122_19, e122_48, e122_49, e122_52, e122_53, e122_54, e122_57, e122_58, e122_59, e122_60, e122_63, e122_64, e122_65, e122_68, e122_69, e122_70, e122_71, e122_72, e122_75, e122_76, e122_79, e122_80, e122_81, e122_84, e122_85, e122_88, e122_89, e122_90, e122_91, e122_92, e122_93, e122_94, e122_95, e122_96, e122_99, e122_102, e122_103, e122_106, e122_107, e122_108, e122_109, en_42, en_87, en_93, i_86, f_86_0, a_87, n_87, in_H, rM_H, M_its ha, M_value ha hA, M_isWriting ha, not_false_eq_true, Nat.reduceLT, Nat.reduceLeDiff, Nat.reduceAdd, Nat.reduceMul, lvH_Hq, Option.bind_some, psh_i, psh_n, Hq_G, Hq_setG, upf_same, upf_upf, b2_0, b2_1, b2_01, one_01, zero_01, le32, Classical.not_not, ite_not]
  unfold mCW mBit
  by_cases h2 : s.H 0 = nI 2
  · simp only [h2, if_true, K01, K02, K03, K04, K05, K10, K12, K13, K14, K15, K20, K21, K23, K24, K25, K30, K31, K32, K34, K35, K40, K41, K42, K43, K45, K50, K51, K52, K53, K54, K00, if_false]
    repeat' split
    all_goals simp_all [-Int32.not_lt, -Int32.not_le]
  · by_cases h4 : s.H 0 = nI 4
    · simp only [h2, h4, if_true, K01, K02, K03, K04, K05, K10, K12, K13, K14, K15, K20, K21, K23, K24, K25, K30, K31, K32, K34, K35, K40, K41, K42, K43, K45, K50, K51, K52, K53, K54, K00, if_false]
    · by_cases h5 : s.H 0 = nI 5
      · simp only [h2, h4, h5, if_true, K01, K02, K03, K04, K05, K10, K12, K13, K14, K15, K20, K21, K23, K24, K25, K30, K31, K32, K34, K35, K40, K41, K42, K43, K45, K50, K51, K52, K53, K54, K00, if_false]
        by_cases h6 : mWt s a
        · rw [if_pos h6, if_pos h6]
        · rw [if_neg h6, if_neg h6]
      · simp only [h2, h4, h5, if_true, K01, K02, K03, K04, K05, K10, K12, K13, K14, K15, K20, K21, K23, K24, K25, K30, K31, K32, K34, K35, K40, K41, K42, K43, K45, K50, K51, K52, K53, K54, K00, if_false, ite_self]
theorem M_cellOf {a : Nat} (ha : a < 5) (hA : Ix 7 (s.P a 0)) : Den 142 [.ref 86, .int (nI a)] (HM L g s f) = some (some (mCel s a), HM L g s f) := by
  rw [D0_142]
  simp only [e142_0, e142_1, e142_2, e142_5, e142_8, e142_9, e142_10, e142_13, e142_16, e142_17, e142_18, e142_21, en_41, en_80, en_122, i_86, M_isWriter ha, M_cellOfWriter ha hA, M_cellOfReader ha, Nat.reduceLT, Nat.reduceLeDiff, Nat.reduceAdd, Nat.reduceMul, lvH_Hq, Option.bind_some, psh_i, psh_n, Hq_G, Hq_setG, upf_same, upf_upf, b2_0, b2_1, b2_01, one_01, zero_01, le32, Classical.not_not, ite_not]
  unfold mCel
  split <;> rfl
theorem M_stampOf {a : Nat} (ha : a < 5) : Den 92 [.ref 86, .int (nI a)] (HM L g s f) = some (some (mSt s a), HM L g s f) := by
  rw [D0_92]
  simp only [e92_0, e92_1, e92_4, e92_5, e92_6, e92_7, e92_10, e92_11, e92_12, e92_13, e92_16, e92_19, e92_20, e92_23, e92_24, e92_25, e92_26, e92_29, e92_30, e92_31, e92_32, e92_35, e92_38, e92_39, e92_40, e92_41, e92_44, e92_46, e92_47, e92_48, e92_49, en_42, i_86, f_86_0, a_87, n_87, in_H, rM_H, M_its ha, K100, not_false_eq_true, Nat.reduceLT, Nat.reduceLeDiff, Nat.reduceAdd, Nat.reduceMul, lvH_Hq, Option.bind_some, psh_i, psh_n, Hq_G, Hq_setG, upf_same, upf_upf, b2_0, b2_1, b2_01, one_01, zero_01, le32, Classical.not_not, ite_not]
  unfold mSt
  by_cases h : s.H 0 < nI 5
  · rw [if_pos h, if_pos h]
  · rw [if_neg h, if_neg h]
    by_cases h1 : s.H 1 = nI 1
    · rw [if_pos h1, if_pos h1]
    · rw [if_neg h1, if_neg h1]
theorem M_numberOf {a : Nat} (ha : a < 5) (hA : Ix 7 (s.P a 0)) : Den 160 [.ref 86, .int (nI a)] (HM L g s f) = some (some (mNm s a), HM L g s f) := by
  rw [D0_160]
  simp only [e160_0, e160_1, e160_2, e160_5, e160_8, e160_9, e160_10, e160_11, e160_14, e160_15, e160_16, e160_19, e160_20, e160_21, e160_22, e160_25, e160_26, e160_27, e160_30, e160_31, e160_32, e160_35, e160_36, e160_37, e160_38, e160_41, e160_42, e160_43, e160_46, e160_47, e160_48, e160_51, e160_54, e160_55, e160_58, e160_59, e160_60, e160_62, e160_63, e160_64, e160_67, e160_68, e160_70, e160_71, e160_72, e160_73, e160_74, e160_75, e160_78, e160_79, en_41, en_42, en_92, en_93, en_142, i_86, f_86_0, a_87, n_87, in_H, rM_H, M_its ha, M_isWriter ha, M_value ha hA, M_cellOf ha hA, M_stampOf ha, not_false_eq_true, Nat.reduceLT, Nat.reduceLeDiff, Nat.reduceAdd, Nat.reduceMul, lvH_Hq, Option.bind_some, psh_i, psh_n, Hq_G, Hq_setG, upf_same, upf_upf, b2_0, b2_1, b2_01, one_01, zero_01, le32, Classical.not_not, ite_not]
  unfold mNm b2
  by_cases h : a < wrs s
  · simp only [h, if_true]
    by_cases h2 : s.H 0 < nI 2
    · rw [if_pos h2, if_pos h2]
    · rw [if_neg h2, if_neg h2]
      by_cases h3 : s.H 0 = nI 2
      · rw [if_pos h3, if_pos h3]
        split <;> rfl
      · rw [if_neg h3, if_neg h3]
  · simp only [h, if_false]
theorem M_note {a o : Nat} (ha : a < 5) (ho : s.P a 7 = nI o) (h10 : o < 10) {x : Int32} : Den 89 [.ref 86, .int (nI a), .int x] (HM L g s f) = some (none, HM L g (mNote s a x) f) := by
  have e : nI (17 + 18 * a + 8) + nI o = nI (17 + 18 * a + (8 + o)) := by rw [nI_add, Nat.add_assoc]
  have h18 : 8 + o < 18 := by omega
  have k1 := in_P ha h18
  have k2 := in_P ha (show 7 < 18 by omega)
  have k3 : ∀ {v : Int32}, (s.sP a (8 + o) v).P a 7 = s.P a 7 := fun {v} => sP_nk (by omega)
  rw [D0_89]
  simp only [e89_0, e89_1, e89_4, e89_5, e89_6, e89_8, e89_11, e89_12, e89_13, e89_15, e89_18, e89_19, e89_20, e89_21, e89_22, e89_25, e89_26, e89_27, e89_29, e89_32, e89_33, e89_34, e89_35, e89_36, e89_37, en_11, en_42, i_86, f_86_0, a_87, b_87, n_87, M_of, M_its ha, ho, e, k1, k2, wM_P ha h18, rM_P ha (show 7 < 18 by omega), wM_P ha (show 7 < 18 by omega), k3, not_false_eq_true, lvH_Hq, Option.bind_some, psh_i, psh_n, Hq_G, Hq_setG, upf_same, upf_upf, Nat.reduceLT, Nat.reduceLeDiff, Nat.reduceAdd, Nat.reduceMul]
  unfold mNote
  rw [ho, ix_nI (by omega)]
theorem M_isUnderWay {a : Nat} (ha : a < 5) : Den 86 [.ref 86, .int (nI a)] (HM L g s f) = some (some (b2 (¬ s.P a 0 = -1)), HM L g s f) := by
  rw [D0_86, r_b2]
  simp only [e86_0, e86_1, e86_2, e86_3, e86_6, e86_7, e86_10, e86_11, e86_14, e86_15, en_42, i_86, M_its ha, Nat.reduceLT, Nat.reduceLeDiff, Nat.reduceAdd, Nat.reduceMul, lvH_Hq, Option.bind_some, psh_i, psh_n, Hq_G, Hq_setG, upf_same, upf_upf, b2_0, b2_1, b2_01, one_01, zero_01, le32, Classical.not_not, ite_not]
theorem M_isBegun {a : Nat} (ha : a < 5) : Den 125 [.ref 86, .int (nI a)] (HM L g s f) = some (some (b2 (mBg s a)), HM L g s f) := by
  rw [D0_125, r_b2, if_an, ite_not]
  simp only [e125_0, e125_1, e125_2, e125_5, e125_8, e125_9, e125_10, e125_11, e125_14, e125_15, e125_18, e125_19, e125_22, e125_23, en_42, en_86, i_86, M_its ha, M_isUnderWay ha, Nat.reduceLT, Nat.reduceLeDiff, Nat.reduceAdd, Nat.reduceMul, lvH_Hq, Option.bind_some, psh_i, psh_n, Hq_G, Hq_setG, upf_same, upf_upf, b2_0, b2_1, b2_01, one_01, zero_01, le32, Classical.not_not, ite_not]
theorem M_hold {a : Nat} (ha : a < 5) {x : Int32} : Den 39 [.ref 86, .int (nI a), .int x] (HM L g s f) = some (none, HM L g (s.sP a 3 x) f) := by
  have k2 := in_P ha (show 3 < 18 by omega)
  rw [D0_39]
  simp only [e39_0, e39_1, e39_4, e39_5, e39_6, e39_7, e39_10, e39_11, e39_12, en_11, i_86, f_86_0, a_87, b_87, n_87, M_of, k2, wM_P ha (show 3 < 18 by omega), not_false_eq_true, lvH_Hq, Option.bind_some, psh_i, psh_n, Hq_G, Hq_setG, upf_same, upf_upf]
theorem M_end {a : Nat} (ha : a < 5) (hA : Ix 7 (s.P a 0)) {x : Int32} : Den 82 [.ref 86, .int (nI a), .int x] (HM L g s f) = some (none, HM L g (mEnd s a x) f) := by
  obtain ⟨k, hk, hA⟩ := hA
  have k0 := in_P ha (show 0 < 18 by omega)
  have k1 := in_P ha (show 1 < 18 by omega)
  have k2 := in_P ha (show 2 < 18 by omega)
  have a3 := in_A hk (show 3 < 5 by omega)
  have a4 := in_A hk (show 4 < 5 by omega)
  rw [D0_82]
  simp only [e82_0, e82_1, e82_2, e82_3, e82_6, e82_7, e82_8, e82_11, e82_12, e82_13, e82_14, e82_17, e82_18, e82_21, e82_22, e82_23, e82_24, e82_25, e82_28, e82_29, e82_30, e82_31, e82_34, e82_35, e82_36, e82_37, e82_40, e82_41, e82_42, e82_43, e82_46, e82_47, e82_48, e82_49, e82_52, e82_53, e82_54, e82_55, e82_58, e82_59, e82_60, e82_61, e82_64, e82_65, e82_66, e82_67, e82_70, e82_71, e82_72, en_11, en_12, en_42, i_86, f_86_0, a_87, b_87, n_87, M_of, M_ofAct, M_its ha, hA, k0, k1, k2, a3, a4, in_H, rM_H, wM_P ha (show 0 < 18 by omega), wM_P ha (show 1 < 18 by omega), wM_P ha (show 2 < 18 by omega), wM_A hk (show 3 < 5 by omega), wM_A hk (show 4 < 5 by omega), not_false_eq_true, lvH_Hq, Option.bind_some, psh_i, psh_n, Hq_G, Hq_setG, upf_same, upf_upf, Nat.reduceLT, Nat.reduceLeDiff, Nat.reduceAdd, Nat.reduceMul]
  unfold mEnd
  rw [hA, ix_nI (by omega)]
end MM
