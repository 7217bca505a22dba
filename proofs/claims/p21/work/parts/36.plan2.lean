section ST
variable {n : Nat} {S : Nat → Shp} {g : Nat → Nat → Int32} {p q : Nat} {s : Sx}
theorem D_cellOf (hs : St n S p q) {a : Nat} (ha : a < 5) (hA : Ix 7 (s.P a 0)) {nth : Int32} {rd : Prop} [Decidable rd] : Den 104 [.ref p, .int (nI a), .int nth, .int (b2 rd)] (Hq n S (upf g q (lay s))) = some (some (celO s a nth rd), Hq n S (upf g q (lay s))) := by
  rw [D0_104]
  simp only [e104_0, e104_1, e104_2, e104_5, e104_7, e104_8, e104_9, e104_12, e104_44, e104_46, e104_49, e104_50, e104_51, e104_52, e104_55, e104_56, e104_59, e104_62, e104_63, e104_64, e104_66, e104_69, e104_70, e104_73, e104_74, e104_75, e104_78, e104_79, e104_80, e104_83, e104_84, e104_85, e104_88, e104_89, e104_90, e104_93, e104_94, e104_97, e104_98, e104_99, e104_100, en_25, en_60, en_61, en_62, en_67, en_71, hs.i, D_get hs, D_isWriter hs ha, D_valueWritten hs ha hA, D_bitWritten hs, D_relayCell, D_writers hs, Nat.reduceLT, Nat.reduceLeDiff, Nat.reduceAdd, Nat.reduceMul, lvH_Hq, Option.bind_some, psh_i, psh_n, Hq_G, Hq_setG, upf_same, upf_upf, b2_0, b2_1, b2_01, one_01, zero_01, le32, Classical.not_not, ite_not]
  unfold celO
  repeat' split
  all_goals simp_all [-Int32.not_lt, -Int32.not_le, K01, K02, K03, K04, K05, K10, K12, K13, K14, K15, K20, K21, K23, K24, K25, K30, K31, K32, K34, K35, K40, K41, K42, K43, K45, K50, K51, K52, K53, K54, K00]
theorem D_numberWritten (hs : St n S p q) {a : Nat} (ha : a < 5) (hA : Ix 7 (s.P a 0)) {nth : Int32} : Den 105 [.ref p, .int (nI a), .int nth] (Hq n S (upf g q (lay s))) = some (some (numW s a nth), Hq n S (upf g q (lay s))) := by
  have h100 : ¬ nI 100 = 0 := by decide
  rw [D0_105]
  simp only [e105_0, e105_1, e105_2, e105_3, e105_6, e105_7, e105_8, e105_9, e105_12, e105_15, e105_16, e105_17, e105_18, e105_19, e105_22, e105_24, e105_25, e105_26, e105_29, e105_60, e105_61, e105_63, e105_64, e105_67, e105_69, e105_72, e105_73, e105_76, e105_77, e105_78, e105_80, e105_81, e105_82, e105_84, e105_85, e105_86, e105_88, e105_89, e105_90, e105_93, e105_96, e105_97, e105_100, e105_101, e105_102, e105_104, e105_107, e105_109, e105_110, e105_111, e105_112, e105_114, e105_115, e105_116, e105_117, e105_119, e105_120, e105_121, e105_123, en_25, en_28, en_60, en_62, en_65, en_67, hs.i, D_get hs, D_isPoor hs, D_isWriter hs ha, D_valueWritten hs ha hA, D_bitWritten hs, D_of hs ha, Nat.reduceLT, Nat.reduceLeDiff, Nat.reduceAdd, Nat.reduceMul, lvH_Hq, Option.bind_some, psh_i, psh_n, Hq_G, Hq_setG, upf_same, upf_upf, b2_0, b2_1, b2_01, one_01, zero_01, le32, Classical.not_not, ite_not, h100, not_false_eq_true]
  unfold numW b2
  repeat' split
  all_goals simp_all [-Int32.not_lt, -Int32.not_le, K01, K02, K03, K04, K05, K10, K12, K13, K14, K15, K20, K21, K23, K24, K25, K30, K31, K32, K34, K35, K40, K41, K42, K43, K45, K50, K51, K52, K53, K54, K00]
theorem D_accesses (hs : St n S p q) {a : Nat} (ha : a < 5) {v : Int32} : Den 103 [.ref p, .int (nI a), .int v] (Hq n S (upf g q (lay s))) = some (some (accs s a v), Hq n S (upf g q (lay s))) := by
  rw [D0_103]
  simp only [e103_0, e103_1, e103_2, e103_5, e103_6, e103_7, e103_10, e103_12, e103_13, e103_14, e103_17, e103_19, e103_20, e103_21, e103_24, e103_60, e103_61, e103_64, e103_66, e103_69, e103_70, e103_71, e103_72, e103_73, e103_76, e103_79, e103_80, e103_83, e103_84, e103_85, e103_86, e103_89, e103_91, e103_94, e103_95, e103_96, e103_97, e103_100, e103_101, e103_102, e103_105, e103_106, e103_107, e103_110, e103_112, e103_115, e103_117, e103_120, e103_121, e103_124, e103_125, e103_127, e103_128, e103_129, e103_130, e103_131, e103_132, e103_135, e103_136, e103_139, e103_141, e103_144, e103_145, e103_148, e103_149, e103_150, e103_151, en_25, en_28, en_65, en_67, hs.i, D_get hs, D_isPoor hs, D_isWriter hs ha, D_of hs ha, Nat.reduceLT, Nat.reduceLeDiff, Nat.reduceAdd, Nat.reduceMul, lvH_Hq, Option.bind_some, psh_i, psh_n, Hq_G, Hq_setG, upf_same, upf_upf, b2_0, b2_1, b2_01, one_01, zero_01, le32, Classical.not_not, ite_not]
  unfold accs
  repeat' split
  all_goals simp_all [-Int32.not_lt, -Int32.not_le, K01, K02, K03, K04, K05, K10, K12, K13, K14, K15, K20, K21, K23, K24, K25, K30, K31, K32, K34, K35, K40, K41, K42, K43, K45, K50, K51, K52, K53, K54, K00]
theorem valW_sP {a b k : Nat} {v : Int32} (hk : ¬ 0 = k) : valW (s.sP b k v) a = valW s a := by
  unfold valW
  rw [sP_P, if_neg (fun z => hk z.2)]
  rfl
theorem celO_sP {a b k : Nat} {v nth : Int32} {rd : Prop} [Decidable rd] (hk : ¬ 0 = k) : celO (s.sP b k v) a nth rd = celO s a nth rd := by
  unfold celO
  rw [valW_sP hk]
  rfl
theorem sP_nk {a b k j : Nat} {v : Int32} (hk : ¬ j = k) : (s.sP b k v).P a j = s.P a j := if_neg (fun z => hk z.2)
theorem sP_na {a b k j : Nat} {v : Int32} (hk : ¬ a = b) : (s.sP b k v).P a j = s.P a j := if_neg (fun z => hk z.1)
theorem sP_eq {a k : Nat} {v : Int32} : (s.sP a k v).P a k = v := if_pos ⟨rfl, rfl⟩
theorem numW_sP {a b k : Nat} {v nth : Int32} (h0 : ¬ 0 = k) (h4 : ¬ 4 = k) (h6 : ¬ 6 = k) : numW (s.sP b k v) a nth = numW s a nth := by
  unfold numW
  rw [valW_sP h0, sP_nk h4, sP_nk h6]
  rfl
theorem Ix_sP {a b k j m : Nat} {v : Int32} (h : Ix m (s.P a j)) (hk : ¬ j = k) : Ix m ((s.sP b k v).P a j) := by
  rw [sP_P, if_neg (fun z => hk z.2)]
  exact h
theorem D_prepare (hs : St n S p q) {a : Nat} (ha : a < 5) (hA : Ix 7 (s.P a 0)) : Den 132 [.ref p, .int (nI a)] (Hq n S (upf g q (lay s))) = some (none, Hq n S (upf g q (lay (prep s a)))) := by
  rw [D0_132]
  simp only [e132_0, e132_1, e132_2, e132_3, e132_6, e132_7, e132_8, e132_9, e132_10, e132_11, e132_14, e132_17, e132_18, e132_19, e132_20, e132_21, e132_24, e132_25, e132_26, e132_27, e132_28, e132_31, e132_32, e132_33, e132_34, e132_36, e132_37, e132_40, e132_41, e132_44, e132_45, e132_48, e132_49, e132_50, e132_51, e132_52, e132_53, e132_54, e132_55, e132_58, e132_61, e132_62, e132_65, e132_66, e132_67, e132_69, e132_70, e132_71, e132_72, e132_75, e132_78, en_28, en_68, en_104, en_105, en_106, hs.i, D_of hs ha, D_reads hs ha, D_set hs ha, Nat.reduceLT, Nat.reduceLeDiff, Nat.reduceAdd, Nat.reduceMul, lvH_Hq, Option.bind_some, psh_i, psh_n, Hq_G, Hq_setG, upf_same, upf_upf, b2_0, b2_1, b2_01, one_01, zero_01, le32, Classical.not_not, ite_not]
  unfold prep
  simp only [le32]
  by_cases h1 : s.P a 1 < s.P a 5
  · simp only [h1, if_true, not_true_eq_false, if_false]
    by_cases h2 : rds s a (s.P a 1)
    · simp only [h2, if_true]
      have e : nI 1 = b2 True := rfl
      simp only [e132_0, e132_1, e132_2, e132_3, e132_6, e132_7, e132_8, e132_9, e132_10, e132_11, e132_14, e132_17, e132_18, e132_19, e132_20, e132_21, e132_24, e132_25, e132_26, e132_27, e132_28, e132_31, e132_32, e132_33, e132_34, e132_36, e132_37, e132_40, e132_41, e132_44, e132_45, e132_48, e132_49, e132_50, e132_51, e132_52, e132_53, e132_54, e132_55, e132_58, e132_61, e132_62, e132_65, e132_66, e132_67, e132_69, e132_70, e132_71, e132_72, e132_75, e132_78, en_28, en_68, en_104, en_105, en_106, hs.i, D_of hs ha, D_cellOf hs ha (Ix_sP hA (show ¬ 0 = 7 by decide)), D_set hs ha, Nat.reduceLT, Nat.reduceLeDiff, Nat.reduceAdd, Nat.reduceMul, lvH_Hq, Option.bind_some, psh_i, psh_n, Hq_G, Hq_setG, upf_same, upf_upf, b2_0, b2_1, b2_01, one_01, zero_01, le32, Classical.not_not, ite_not, celO_sP (show ¬ 0 = 7 by decide), Bool.false_eq_true, true_iff, not_true_eq_false, if_false]
    · simp only [h2, if_false]
      simp only [e132_0, e132_1, e132_2, e132_3, e132_6, e132_7, e132_8, e132_9, e132_10, e132_11, e132_14, e132_17, e132_18, e132_19, e132_20, e132_21, e132_24, e132_25, e132_26, e132_27, e132_28, e132_31, e132_32, e132_33, e132_34, e132_36, e132_37, e132_40, e132_41, e132_44, e132_45, e132_48, e132_49, e132_50, e132_51, e132_52, e132_53, e132_54, e132_55, e132_58, e132_61, e132_62, e132_65, e132_66, e132_67, e132_69, e132_70, e132_71, e132_72, e132_75, e132_78, en_28, en_68, en_104, en_105, en_106, hs.i, D_of hs ha, D_cellOf hs ha (Ix_sP hA (show ¬ 0 = 7 by decide)), D_set hs ha, D_numberWritten hs ha (Ix_sP (Ix_sP hA (show ¬ 0 = 7 by decide)) (show ¬ 0 = 3 by decide)), Nat.reduceLT, Nat.reduceLeDiff, Nat.reduceAdd, Nat.reduceMul, lvH_Hq, Option.bind_some, psh_i, psh_n, Hq_G, Hq_setG, upf_same, upf_upf, b2_0, b2_1, b2_01, one_01, zero_01, le32, Classical.not_not, ite_not, celO_sP (show ¬ 0 = 7 by decide), if_true, not_false_eq_true]
      rw [numW_sP (by decide) (by decide) (by decide), numW_sP (by decide) (by decide) (by decide)]
  · simp only [h1, if_false, not_false_eq_true, if_true]
end ST
