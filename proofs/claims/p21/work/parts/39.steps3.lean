/-! class Steps: go and start -/
section ST
variable {n : Nat} {S : Nat → Shp} {g : Nat → Nat → Int32} {p q : Nat} {s : Sx}
theorem L_goB (hs : St n S p q) {a : Nat} (ha : a < 5) (hA : Ix 7 (s.P a 0)) (hC : 0 < s.P a 5 → Ix 9 (s.P a 3)) {x : Int32} (hx : Ix 8 x) : ∃ v, Rr 150 0 [.ref p, .int (nI a), .int x, .retAddr 0] [] (Hq n S (upf g q (lay s))) = Rr 150 101 [.ref p, .int (nI a), .int x, v] [] (Hq n S (upf g q (lay (goB s a x)))) := by
  simp only [e150_0, e150_1, e150_2, e150_3, e150_6, en_28, hs.i, D_of hs ha, Nat.reduceLT, Nat.reduceLeDiff, Nat.reduceAdd, Nat.reduceMul, lvH_Hq, Option.bind_some, psh_i, psh_n, Hq_G, Hq_setG, upf_same, upf_upf, b2_0, b2_1, b2_01, one_01, zero_01, le32, Classical.not_not, ite_not]
  unfold goB
  by_cases h5 : 0 < s.P a 5
  · simp only [h5, not_true_eq_false, if_true, if_false]
    have hC := hC h5
    simp only [e150_9, e150_10, e150_11, e150_14, e150_15, en_25, hs.i, D_get hs, Nat.reduceLT, Nat.reduceLeDiff, Nat.reduceAdd, Nat.reduceMul, lvH_Hq, Option.bind_some, psh_i, psh_n, Hq_G, Hq_setG, upf_same, upf_upf, b2_0, b2_1, b2_01, one_01, zero_01, le32, Classical.not_not, ite_not]
    by_cases h2 : s.H 2 = nI 2
    · simp only [h2, not_true_eq_false, false_and, if_true, if_false]
      refine ⟨.int (nI 0), ?_⟩
      simp only [e150_31, e150_32, e150_33, e150_34, K00, if_true]
      by_cases h7 : s.P a 7 = nI 1
      · simp only [e150_0, e150_1, e150_2, e150_3, e150_6, e150_9, e150_10, e150_11, e150_14, e150_15, e150_18, e150_19, e150_20, e150_21, e150_24, e150_27, e150_28, e150_31, e150_32, e150_33, e150_34, e150_37, e150_38, e150_39, e150_42, e150_45, e150_46, e150_47, e150_49, e150_52, e150_53, e150_56, e150_57, e150_58, e150_59, e150_60, e150_61, e150_64, e150_67, e150_70, e150_71, e150_72, e150_75, e150_76, e150_77, e150_78, e150_79, e150_82, e150_83, e150_84, e150_85, e150_86, e150_87, e150_88, e150_91, e150_92, e150_93, e150_96, e150_97, e150_98, e150_102, e150_103, e150_104, e150_107, e150_108, e150_109, e150_110, e150_113, e150_116, e150_117, e150_120, e150_121, e150_122, e150_123, e150_126, e150_127, e150_128, e150_131, e150_132, e150_135, e150_136, en_25, en_28, en_68, en_72, en_73, en_113, en_116, en_132, en_134, en_135, hs.i, D_of hs ha, D_set hs ha, D_numberGot hs ha hC hx, D_takeIn hs ha, h7, not_true_eq_false, if_false, D_prepare hs ha (s := ((tkIn s a (numG s a x)).sP a 2 (nI 0)).sP a 1 ((tkIn s a (numG s a x)).P a 1 + nI 1)) (by rw [sP_nk (by decide), sP_nk (by decide), tkIn_P (by decide) (by decide) (by decide)]; exact hA), Nat.reduceLT, Nat.reduceLeDiff, Nat.reduceAdd, Nat.reduceMul, lvH_Hq, Option.bind_some, psh_i, psh_n, Hq_G, Hq_setG, upf_same, upf_upf, b2_0, b2_1, b2_01, one_01, zero_01, le32, Classical.not_not, ite_not, sP_nk (show ¬ 1 = 2 by decide), goA, if_true]
      · simp only [e150_0, e150_1, e150_2, e150_3, e150_6, e150_9, e150_10, e150_11, e150_14, e150_15, e150_18, e150_19, e150_20, e150_21, e150_24, e150_27, e150_28, e150_31, e150_32, e150_33, e150_34, e150_37, e150_38, e150_39, e150_42, e150_45, e150_46, e150_47, e150_49, e150_52, e150_53, e150_56, e150_57, e150_58, e150_59, e150_60, e150_61, e150_64, e150_67, e150_70, e150_71, e150_72, e150_75, e150_76, e150_77, e150_78, e150_79, e150_82, e150_83, e150_84, e150_85, e150_86, e150_87, e150_88, e150_91, e150_92, e150_93, e150_96, e150_97, e150_98, e150_102, e150_103, e150_104, e150_107, e150_108, e150_109, e150_110, e150_113, e150_116, e150_117, e150_120, e150_121, e150_122, e150_123, e150_126, e150_127, e150_128, e150_131, e150_132, e150_135, e150_136, en_25, en_28, en_68, en_72, en_73, en_113, en_116, en_132, en_134, en_135, hs.i, D_of hs ha, D_set hs ha, D_putDown hs ha hC, h7, not_false_eq_true, if_false, D_prepare hs ha (s := ((putD s a).sP a 2 (nI 0)).sP a 1 ((putD s a).P a 1 + nI 1)) (by rw [sP_nk (by decide), sP_nk (by decide), putD_P (by decide)]; exact hA), Nat.reduceLT, Nat.reduceLeDiff, Nat.reduceAdd, Nat.reduceMul, lvH_Hq, Option.bind_some, psh_i, psh_n, Hq_G, Hq_setG, upf_same, upf_upf, b2_0, b2_1, b2_01, one_01, zero_01, le32, Classical.not_not, ite_not, sP_nk (show ¬ 1 = 2 by decide), goA, if_true]
    · simp only [h2, not_false_eq_true, true_and, if_true, if_false]
      simp only [e150_18, e150_19, e150_20, e150_21, e150_24, en_28, hs.i, D_of hs ha, Nat.reduceLT, Nat.reduceLeDiff, Nat.reduceAdd, Nat.reduceMul, lvH_Hq, Option.bind_some, psh_i, psh_n, Hq_G, Hq_setG, upf_same, upf_upf, b2_0, b2_1, b2_01, one_01, zero_01, le32, Classical.not_not, ite_not]
      by_cases hg : s.P a 2 = 0
      · simp only [hg, if_true]
        refine ⟨.int (nI 1), ?_⟩
        simp only [e150_27, e150_28, e150_32, e150_33, e150_34, e150_37, e150_38, e150_39, e150_42, en_134, show ¬ nI 1 = 0 by decide, if_false, D_beginAccess hs ha hC, Nat.reduceLT, Nat.reduceLeDiff, Nat.reduceAdd, Nat.reduceMul, lvH_Hq, Option.bind_some, psh_i, psh_n, Hq_G, Hq_setG, upf_same, upf_upf, b2_0, b2_1, b2_01, one_01, zero_01, le32, Classical.not_not, ite_not]
      · simp only [hg, if_false]
        refine ⟨.int (nI 0), ?_⟩
        simp only [e150_31, e150_32, e150_33, e150_34, K00, if_true]
        by_cases h7 : s.P a 7 = nI 1
        · simp only [e150_0, e150_1, e150_2, e150_3, e150_6, e150_9, e150_10, e150_11, e150_14, e150_15, e150_18, e150_19, e150_20, e150_21, e150_24, e150_27, e150_28, e150_31, e150_32, e150_33, e150_34, e150_37, e150_38, e150_39, e150_42, e150_45, e150_46, e150_47, e150_49, e150_52, e150_53, e150_56, e150_57, e150_58, e150_59, e150_60, e150_61, e150_64, e150_67, e150_70, e150_71, e150_72, e150_75, e150_76, e150_77, e150_78, e150_79, e150_82, e150_83, e150_84, e150_85, e150_86, e150_87, e150_88, e150_91, e150_92, e150_93, e150_96, e150_97, e150_98, e150_102, e150_103, e150_104, e150_107, e150_108, e150_109, e150_110, e150_113, e150_116, e150_117, e150_120, e150_121, e150_122, e150_123, e150_126, e150_127, e150_128, e150_131, e150_132, e150_135, e150_136, en_25, en_28, en_68, en_72, en_73, en_113, en_116, en_132, en_134, en_135, hs.i, D_of hs ha, D_set hs ha, D_numberGot hs ha hC hx, D_takeIn hs ha, h7, not_true_eq_false, if_false, D_prepare hs ha (s := ((tkIn s a (numG s a x)).sP a 2 (nI 0)).sP a 1 ((tkIn s a (numG s a x)).P a 1 + nI 1)) (by rw [sP_nk (by decide), sP_nk (by decide), tkIn_P (by decide) (by decide) (by decide)]; exact hA), Nat.reduceLT, Nat.reduceLeDiff, Nat.reduceAdd, Nat.reduceMul, lvH_Hq, Option.bind_some, psh_i, psh_n, Hq_G, Hq_setG, upf_same, upf_upf, b2_0, b2_1, b2_01, one_01, zero_01, le32, Classical.not_not, ite_not, sP_nk (show ¬ 1 = 2 by decide), goA, if_true]
        · simp only [e150_0, e150_1, e150_2, e150_3, e150_6, e150_9, e150_10, e150_11, e150_14, e150_15, e150_18, e150_19, e150_20, e150_21, e150_24, e150_27, e150_28, e150_31, e150_32, e150_33, e150_34, e150_37, e150_38, e150_39, e150_42, e150_45, e150_46, e150_47, e150_49, e150_52, e150_53, e150_56, e150_57, e150_58, e150_59, e150_60, e150_61, e150_64, e150_67, e150_70, e150_71, e150_72, e150_75, e150_76, e150_77, e150_78, e150_79, e150_82, e150_83, e150_84, e150_85, e150_86, e150_87, e150_88, e150_91, e150_92, e150_93, e150_96, e150_97, e150_98, e150_102, e150_103, e150_104, e150_107, e150_108, e150_109, e150_110, e150_113, e150_116, e150_117, e150_120, e150_121, e150_122, e150_123, e150_126, e150_127, e150_128, e150_131, e150_132, e150_135, e150_136, en_25, en_28, en_68, en_72, en_73, en_113, en_116, en_132, en_134, en_135, hs.i, D_of hs ha, D_set hs ha, D_putDown hs ha hC, h7, not_false_eq_true, if_false, D_prepare hs ha (s := ((putD s a).sP a 2 (nI 0)).sP a 1 ((putD s a).P a 1 + nI 1)) (by rw [sP_nk (by decide), sP_nk (by decide), putD_P (by decide)]; exact hA), Nat.reduceLT, Nat.reduceLeDiff, Nat.reduceAdd, Nat.reduceMul, lvH_Hq, Option.bind_some, psh_i, psh_n, Hq_G, Hq_setG, upf_same, upf_upf, b2_0, b2_1, b2_01, one_01, zero_01, le32, Classical.not_not, ite_not, sP_nk (show ¬ 1 = 2 by decide), goA, if_true]
  · simp only [h5, not_false_eq_true, if_true, if_false]
    exact ⟨_, rfl⟩
theorem D_go (hs : St n S p q) {a : Nat} (ha : a < 5) (hA : Ix 7 (s.P a 0)) (hC : 0 < s.P a 5 → Ix 9 (s.P a 3)) {x : Int32} (hx : Ix 8 x) : Den 150 [.ref p, .int (nI a), .int x] (Hq n S (upf g q (lay s))) = some (some (b2 (goE s a x)), Hq n S (upf g q (lay (goC s a x)))) := by
  rw [D0_150]
  obtain ⟨v, e⟩ := L_goB (g := g) hs ha hA hC hx
  rw [e]
  have hA2 : Ix 7 ((goB s a x).P a 0) := by rw [goB_P0]; exact hA
  unfold goC goE
  simp only [e150_101, e150_102, e150_103, e150_104, e150_107, e150_108, e150_109, e150_110, e150_113, en_28, hs.i, D_of hs ha, Nat.reduceLT, Nat.reduceLeDiff, Nat.reduceAdd, Nat.reduceMul, lvH_Hq, Option.bind_some, psh_i, psh_n, Hq_G, Hq_setG, upf_same, upf_upf, b2_0, b2_1, b2_01, one_01, zero_01, le32, Classical.not_not, ite_not]
  by_cases h : (goB s a x).P a 1 < (goB s a x).P a 5
  · have h' : ¬ (goB s a x).P a 5 ≤ (goB s a x).P a 1 := Int32.not_le.mpr h
    simp only [h, if_true, e150_120, e150_121, e150_122, e150_123, e150_131, e150_132, e150_135, en_73, hs.i, D_tick hs, Nat.reduceLT, Nat.reduceLeDiff, Nat.reduceAdd, Nat.reduceMul, lvH_Hq, Option.bind_some, psh_i, psh_n, Hq_G, Hq_setG, upf_same, upf_upf, b2_0, b2_1, b2_01, one_01, zero_01, le32, Classical.not_not, ite_not, K00]
    simp only [b2, h', if_false, e150_136, zero_01, not_true_eq_false]
  · have h' : (goB s a x).P a 5 ≤ (goB s a x).P a 1 := Int32.not_lt.mp h
    simp only [h, if_false, e150_116, e150_117, e150_121, e150_122, e150_123, e150_126, e150_127, e150_128, e150_131, e150_132, e150_135, en_73, en_113, hs.i, D_finish hs ha hA2, D_tick hs, Nat.reduceLT, Nat.reduceLeDiff, Nat.reduceAdd, Nat.reduceMul, lvH_Hq, Option.bind_some, psh_i, psh_n, Hq_G, Hq_setG, upf_same, upf_upf, b2_0, b2_1, b2_01, one_01, zero_01, le32, Classical.not_not, ite_not, show ¬ nI 1 = 0 by decide]
    simp only [b2, h', if_true, e150_136, one_01, not_false_eq_true]
theorem kpSt_H {a : Nat} {v : Int32} : (kpSt s a v).H = s.H := by
  unfold kpSt
  repeat' split
  all_goals rfl
theorem kpSt_C {a : Nat} {v : Int32} : (kpSt s a v).C = s.C := by
  unfold kpSt
  repeat' split
  all_goals rfl
theorem kpSt_A {a : Nat} {v : Int32} : (kpSt s a v).A = s.A := by
  unfold kpSt
  repeat' split
  all_goals rfl
theorem kpSt_P {a b k : Nat} {v : Int32} (h4 : ¬ k = 4) (h6 : ¬ k = 6) : (kpSt s a v).P b k = s.P b k := by
  unfold kpSt
  repeat' split
  all_goals simp only [sP_nk h4, sP_nk h6]
theorem kpSt_Pn {a b k : Nat} {v : Int32} (h : ¬ b = a) : (kpSt s a v).P b k = s.P b k := by
  unfold kpSt
  repeat' split
  all_goals simp only [sP_na h]
theorem D_start (hs : St n S p q) {a : Nat} (ha : a < 5) {v : Int32} (hN : Ix 7 (s.H 6)) : Den 151 [.ref p, .int (nI a), .int v] (Hq n S (upf g q (lay s))) = some (some (s.H 6), Hq n S (upf g q (lay (stC s a v)))) := by
  have hN' := hN
  obtain ⟨m, hm, hN⟩ := hN
  have e : ix (s.H 6) = m := by rw [hN, ix_nI (by omega)]
  have e0 : (stA s a v).P a 0 = s.H 6 := by
    unfold stA
    dsimp only
    rw [sP_nk (by decide), sP_eq]
  have hA : Ix 7 ((kpSt (stA s a v) a v).P a 0) := by
    rw [kpSt_P (by decide) (by decide), e0]
    exact hN'
  rw [D0_151]
  unfold stC
  simp only [e151_0, e151_1, e151_3, e151_6, e151_7, e151_8, e151_9, e151_10, e151_11, e151_14, e151_15, e151_16, e151_17, e151_18, e151_19, e151_22, en_25, en_69, en_67, hs.i, D_get hs, hN, D_setAct hs hm, D_isWriter hs ha, Nat.reduceLT, Nat.reduceLeDiff, Nat.reduceAdd, Nat.reduceMul, lvH_Hq, Option.bind_some, psh_i, psh_n, Hq_G, Hq_setG, upf_same, upf_upf, b2_0, b2_1, b2_01, one_01, zero_01, le32, Classical.not_not, ite_not]
  have fin : Rr 151 86 [.ref p, .int (nI a), .int v, .int (nI m)] [] (Hq n S (upf g q (lay (stA s a v)))) = some (some (nI m), Hq n S (upf g q (lay (tick (prep (kpSt (stA s a v) a v) a))))) := by
    simp only [e151_0, e151_1, e151_3, e151_6, e151_7, e151_8, e151_9, e151_10, e151_11, e151_14, e151_15, e151_16, e151_17, e151_18, e151_19, e151_22, e151_25, e151_26, e151_29, e151_30, e151_33, e151_34, e151_35, e151_36, e151_37, e151_40, e151_41, e151_42, e151_43, e151_44, e151_45, e151_48, e151_51, e151_52, e151_53, e151_54, e151_55, e151_58, e151_59, e151_61, e151_62, e151_63, e151_64, e151_67, e151_68, e151_69, e151_70, e151_71, e151_74, e151_75, e151_76, e151_77, e151_78, e151_79, e151_80, e151_83, e151_86, e151_87, e151_88, e151_89, e151_92, e151_93, e151_94, e151_97, e151_98, e151_101, e151_102, en_25, en_30, en_67, en_68, en_69, en_73, en_103, en_114, en_132, D_keepAtStart hs ha, D_prepare hs ha hA, D_tick hs, Nat.reduceLT, Nat.reduceLeDiff, Nat.reduceAdd, Nat.reduceMul, lvH_Hq, Option.bind_some, psh_i, psh_n, Hq_G, Hq_setG, upf_same, upf_upf, b2_0, b2_1, b2_01, one_01, zero_01, le32, Classical.not_not, ite_not]
  have wA : ∀ {i j : Nat} {v : Int32}, wrs (s.sA i j v) = wrs s := fun {i j v} => rfl
  rw [← fin]
  unfold stA
  rw [e]
  simp only [hN]
  by_cases hw : a < wrs s
  · simp only [wA, hw, not_true_eq_false, if_true, if_false]
    simp only [e151_0, e151_1, e151_3, e151_6, e151_7, e151_8, e151_9, e151_10, e151_11, e151_14, e151_15, e151_16, e151_17, e151_18, e151_19, e151_22, e151_25, e151_26, e151_29, e151_30, e151_33, e151_34, e151_35, e151_36, e151_37, e151_40, e151_41, e151_42, e151_43, e151_44, e151_45, e151_48, e151_51, e151_52, e151_53, e151_54, e151_55, e151_58, e151_59, e151_61, e151_62, e151_63, e151_64, e151_67, e151_68, e151_69, e151_70, e151_71, e151_74, e151_75, e151_76, e151_77, e151_78, e151_79, e151_80, e151_83, e151_87, e151_88, e151_89, e151_92, e151_93, e151_94, e151_97, e151_98, e151_101, e151_102, en_25, en_30, en_67, en_68, en_69, en_73, en_103, en_114, en_132, hs.i, D_get hs, D_put hs, D_set hs ha, D_setAct hs hm, D_accesses hs ha, Nat.reduceLT, Nat.reduceLeDiff, Nat.reduceAdd, Nat.reduceMul, lvH_Hq, Option.bind_some, psh_i, psh_n, Hq_G, Hq_setG, upf_same, upf_upf, b2_0, b2_1, b2_01, one_01, zero_01, le32, Classical.not_not, ite_not, sA_H, hN]
  · simp only [wA, hw, not_false_eq_true, if_true, if_false]
    simp only [e151_0, e151_1, e151_3, e151_6, e151_7, e151_8, e151_9, e151_10, e151_11, e151_14, e151_15, e151_16, e151_17, e151_18, e151_19, e151_22, e151_25, e151_26, e151_29, e151_30, e151_33, e151_34, e151_35, e151_36, e151_37, e151_40, e151_41, e151_42, e151_43, e151_44, e151_45, e151_48, e151_51, e151_52, e151_53, e151_54, e151_55, e151_58, e151_59, e151_61, e151_62, e151_63, e151_64, e151_67, e151_68, e151_69, e151_70, e151_71, e151_74, e151_75, e151_76, e151_77, e151_78, e151_79, e151_80, e151_83, e151_87, e151_88, e151_89, e151_92, e151_93, e151_94, e151_97, e151_98, e151_101, e151_102, en_25, en_30, en_67, en_68, en_69, en_73, en_103, en_114, en_132, hs.i, D_get hs, D_put hs, D_set hs ha, D_setAct hs hm, D_accesses hs ha, Nat.reduceLT, Nat.reduceLeDiff, Nat.reduceAdd, Nat.reduceMul, lvH_Hq, Option.bind_some, psh_i, psh_n, Hq_G, Hq_setG, upf_same, upf_upf, b2_0, b2_1, b2_01, one_01, zero_01, le32, Classical.not_not, ite_not, sA_H, hN]
end ST
