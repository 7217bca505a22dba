/-! THE MODEL: steps, and acts begun -/
/-- what a step of the model wants -/
def mPre (s : Sx) (a N : Nat) : Prop := Ix 7 (s.P a 0) ∧ Ix 11 (s.P a 7) ∧ (¬ s.P a 5 = 0 → Ix 10 (mCel s a)) ∧ N ≤ 5 ∧ prcs s = nI N ∧ (∀ q, q < 5 → ¬ s.P q 0 = -1 → Ix 7 (s.P q 0)) ∧ (¬ s.P a 5 = 0 → s.H 2 < nI 2 ∧ s.P a 2 = 0 → ∀ j, j < N → ∀ q, q < 5 → ∃ o, o < 10 ∧ (itr (mBgB a (mCel s a) (mWt s a)) j (((s.sP a 2 (nI 1)).sP a 6 (s.C (ix (mCel s a)))).sP a 7 (nI 0))).P q 7 = nI o)
theorem gM {n a : Nat} {S : Nat → Shp} {g : Nat → Nat → Int32} {F : Nat → Int32} : Gt (Hq n S (upf g a F)) a = F := upf_same
theorem sM {n a : Nat} {S : Nat → Shp} {g : Nat → Nat → Int32} {F F' : Nat → Int32} : setG (Hq n S (upf g a F)) a F' = Hq n S (upf g a F') := by rw [Hq_setG, upf_upf]
section MM
variable {L : Nat} {g : Nat → Nat → Int32} {s : Sx} {f : Nat → Int32}
theorem M_stepNow {a N : Nat} (ha : a < 5) (h : mPre s a N) {x : Int32} : Den 184 [.ref 86, .int (nI a), .int x] (HM L g s f) = some (none, HM L g (mStp s a N x) f) := by
  obtain ⟨hA, hO, hC, h5, hp, hu, hB⟩ := h
  have hA' := hA
  obtain ⟨k, hk, ek⟩ := hA
  obtain ⟨o, ho, eo⟩ := hO
  have kk : (0 : Int32) ≤ nI k := nI_pos' (by omega)
  have hua : ¬ s.P a 0 = -1 := by
    rw [ek]
    intro z
    have := nI_pos (n := k) (by omega)
    rw [z] at this
    exact this (by decide)
  have fin : ∀ t : Sx, Rr 184 74 [.ref 86, .int (nI a), .int x, .int (nI k)] [] (HM L g t f) = some (none, HM L g (t.sH 5 (t.H 5 + nI 1)) f) := by
    intro t
    simp only [e184_0, e184_1, e184_2, e184_3, e184_6, e184_7, e184_8, e184_9, e184_10, e184_13, e184_16, e184_17, e184_18, e184_19, e184_22, e184_25, e184_26, e184_29, e184_30, e184_31, e184_32, e184_35, e184_36, e184_37, e184_38, e184_41, e184_44, e184_45, e184_46, e184_49, e184_52, e184_53, e184_54, e184_57, e184_60, e184_61, e184_62, e184_65, e184_68, e184_69, e184_70, e184_71, e184_74, e184_75, e184_78, e184_79, e184_80, e184_81, e184_82, e184_85, e184_86, e184_89, e184_90, e184_91, e184_92, en_42, en_82, en_87, en_170, en_172, en_173, i_86, f_86_0, a_87, b_87, n_87, in_H, rM_H, wM_H, kk, if_true, not_false_eq_true, lvH_Hq, Option.bind_some, psh_i, psh_n, Hq_G, Hq_setG, upf_same, upf_upf, Nat.reduceLT, Nat.reduceLeDiff, Nat.reduceAdd, Nat.reduceMul]
  unfold mStp
  rw [D0_184, ← fin]
  simp only [e184_0, e184_1, e184_2, e184_3, e184_6, e184_7, e184_8, e184_9, e184_10, e184_13, en_42, i_86, M_its ha, ek, lvH_Hq, Option.bind_some, psh_i, psh_n, Hq_G, Hq_setG, upf_same, upf_upf, Nat.reduceLT, Nat.reduceLeDiff, Nat.reduceAdd, Nat.reduceMul]
  unfold mStA
  by_cases c1 : s.P a 5 = 0
  · rw [if_neg (fun z => z c1), if_pos c1]
    simp only [e184_16, e184_17, e184_18, e184_19, e184_22, en_82, i_86, M_end ha hA', lvH_Hq, Option.bind_some, psh_i, psh_n, Hq_G, Hq_setG, upf_same, upf_upf, Nat.reduceLT, Nat.reduceLeDiff, Nat.reduceAdd, Nat.reduceMul]
  · rw [if_pos c1, if_neg c1]
    obtain ⟨c, hc, eC⟩ := hC c1
    have tail : Rr 184 52 [.ref 86, .int (nI a), .int x, .int (nI k)] [] (HM L g s f) = Rr 184 74 [.ref 86, .int (nI a), .int x, .int (nI k)] [] (HM L g (if mWt s a then mEw s a else mEr s a x) f) := by
      simp only [e184_52, e184_53, e184_54, e184_57, en_87, i_86, M_isWriting ha, b2_0, ite_not, lvH_Hq, Option.bind_some, psh_i, psh_n, Hq_G, Hq_setG, upf_same, upf_upf, Nat.reduceLT, Nat.reduceLeDiff, Nat.reduceAdd, Nat.reduceMul]
      by_cases cw : mWt s a
      · rw [if_pos cw, if_pos cw]
        simp only [e184_60, e184_61, e184_62, e184_65, en_173, i_86, M_endWrite ha hA' hc eC, lvH_Hq, Option.bind_some, psh_i, psh_n, Hq_G, Hq_setG, upf_same, upf_upf, Nat.reduceLT, Nat.reduceLeDiff, Nat.reduceAdd, Nat.reduceMul]
      · rw [if_neg cw, if_neg cw]
        simp only [e184_68, e184_69, e184_70, e184_71, en_172, i_86, M_endRead ha hA' (show o ≤ 10 by omega) eo hc eC, lvH_Hq, Option.bind_some, psh_i, psh_n, Hq_G, Hq_setG, upf_same, upf_upf, Nat.reduceLT, Nat.reduceLeDiff, Nat.reduceAdd, Nat.reduceMul]
    simp only [e184_25, e184_26, e184_29, e184_30, e184_31, e184_32, i_86, f_86_0, a_87, n_87, in_H, rM_H, not_false_eq_true, lvH_Hq, Option.bind_some, psh_i, psh_n, Hq_G, Hq_setG, upf_same, upf_upf, Nat.reduceLT, Nat.reduceLeDiff, Nat.reduceAdd, Nat.reduceMul]
    by_cases c2 : s.H 2 < nI 2
    · rw [if_neg (Int32.not_le.mpr c2)]
      simp only [e184_35, e184_36, e184_37, e184_38, e184_41, en_42, i_86, M_its ha, lvH_Hq, Option.bind_some, psh_i, psh_n, Hq_G, Hq_setG, upf_same, upf_upf, Nat.reduceLT, Nat.reduceLeDiff, Nat.reduceAdd, Nat.reduceMul]
      by_cases c3 : s.P a 2 = 0
      · rw [if_neg (fun z => z c3), if_pos ⟨c2, c3⟩]
        simp only [e184_44, e184_45, e184_46, e184_49, en_170, i_86, M_beginAccess ha h5 hp hu hua hc eC (hB c1 ⟨c2, c3⟩), lvH_Hq, Option.bind_some, psh_i, psh_n, Hq_G, Hq_setG, upf_same, upf_upf, Nat.reduceLT, Nat.reduceLeDiff, Nat.reduceAdd, Nat.reduceMul]
      · rw [if_pos c3, if_neg (fun z => c3 z.2)]
        exact tail
    · rw [if_pos (Int32.not_lt.mp c2), if_neg (fun z => c2 z.1)]
      exact tail
def mBegA (s : Sx) (a : Nat) (v : Int32) : Sx := ((((((s.sA (ix (s.H 6)) 0 (nI a)).sA (ix (s.H 6)) 1 (if a < wrs s then v else -1)).sA (ix (s.H 6)) 2 (s.H 5)).sA (ix (s.H 6)) 3 (-1)).sA (ix (s.H 6)) 4 (-1)).sH 6 (s.H 6 + nI 1)).sH 5 (s.H 5 + nI 1)
def mBegB (t : Sx) (a : Nat) (x z : Int32) : Sx := (((((t.sP a 0 x).sP a 1 (nI 0)).sP a 2 (nI 0)).sP a 4 (nI 0)).sP a 7 (nI 0)).sP a 5 z
theorem L_beg1 {a : Nat} (ha : a < 5) (hN : Ix 7 (s.H 6)) {v : Int32} : Den 121 [.ref 86, .int (nI a), .int v] (HM L g s f) = Rr 121 106 [.ref 86, .int (nI a), .int v, .int (s.H 6), .retAddr 0] [] (HM L g (mBegA s a v) f) := by
  obtain ⟨m, hm, hN⟩ := hN
  have e : ix (s.H 6) = m := by rw [hN, ix_nI (by omega)]
  have i0 := in_A hm (show 0 < 5 by omega)
  have i1 := in_A hm (show 1 < 5 by omega)
  have i2 := in_A hm (show 2 < 5 by omega)
  have i3 := in_A hm (show 3 < 5 by omega)
  have i4 := in_A hm (show 4 < 5 by omega)
  have wA : ∀ {t : Sx} {i j : Nat} {v : Int32}, wrs (t.sA i j v) = wrs t := fun {t i j v} => rfl
  have sA_Hn : ∀ {t : Sx} {i j : Nat} {v : Int32}, (t.sA i j v).H = t.H := fun {t i j v} => rfl
  have sH5 : ∀ {t : Sx} {v : Int32}, (t.sH 6 v).H 5 = t.H 5 := fun {t v} => rfl
  unfold mBegA
  rw [D0_121, e, hN]
  simp only [e121_0, e121_1, e121_4, e121_6, e121_7, e121_8, e121_9, e121_12, e121_13, e121_14, e121_15, e121_18, e121_19, e121_20, e121_21, e121_24, e121_25, e121_26, e121_27, e121_30, e121_31, e121_32, e121_35, en_12, en_41, i_86, f_86_0, a_87, b_87, n_87, in_H, rM_H, hN, M_ofAct, M_isWriter ha, wA, i0, wM_A hm (show 0 < 5 by omega), not_false_eq_true, lvH_Hq, Option.bind_some, psh_i, psh_n, gM, sM, Nat.reduceLT, Nat.reduceLeDiff, Nat.reduceAdd, Nat.reduceMul, b2_0, ite_not]
  by_cases hw : a < wrs s
  · rw [if_pos hw, if_pos hw]
    simp only [e121_0, e121_1, e121_4, e121_6, e121_7, e121_8, e121_9, e121_12, e121_13, e121_14, e121_15, e121_18, e121_19, e121_20, e121_21, e121_24, e121_25, e121_26, e121_27, e121_30, e121_31, e121_32, e121_35, e121_38, e121_39, e121_42, e121_43, e121_44, e121_45, e121_48, e121_49, e121_50, e121_51, e121_54, e121_55, e121_58, e121_59, e121_60, e121_61, e121_62, e121_65, e121_66, e121_67, e121_68, e121_71, e121_72, e121_73, e121_74, e121_77, e121_78, e121_79, e121_80, e121_83, e121_84, e121_85, e121_86, e121_89, e121_91, e121_92, e121_93, e121_94, e121_95, e121_96, e121_97, e121_100, e121_101, e121_102, e121_103, e121_104, e121_105, e121_106, e121_110, e121_111, e121_112, e121_113, e121_116, e121_117, e121_118, e121_121, e121_124, e121_125, e121_126, e121_127, e121_130, e121_131, e121_134, e121_135, e121_138, e121_139, e121_141, e121_142, e121_145, e121_146, e121_147, e121_148, e121_151, e121_152, e121_153, e121_154, e121_157, e121_158, e121_159, e121_160, e121_163, e121_164, e121_165, e121_166, e121_169, e121_170, e121_171, e121_172, e121_175, e121_176, e121_177, e121_178, e121_181, e121_182, e121_183, e121_184, e121_187, e121_188, e121_189, e121_190, e121_193, e121_194, e121_195, e121_197, e121_200, e121_201, e121_202, e121_203, e121_206, e121_207, e121_208, e121_209, e121_212, e121_214, e121_217, e121_218, e121_221, e121_222, e121_223, e121_226, e121_227, e121_230, e121_231, e121_232, e121_233, e121_236, e121_237, e121_238, e121_239, e121_242, e121_245, e121_246, e121_247, e121_248, e121_251, e121_252, e121_253, e121_254, e121_257, e121_258, e121_261, e121_262, e121_265, e121_266, e121_267, e121_268, e121_271, e121_272, e121_275, e121_276, e121_277, e121_278, e121_281, e121_282, e121_283, e121_284, e121_287, e121_288, e121_289, e121_292, e121_293, e121_294, e121_295, e121_298, e121_301, e121_302, en_11, en_12, en_39, en_41, en_42, en_78, i_86, f_86_0, a_87, b_87, n_87, in_H, rM_H, hN, M_ofAct, wA, i1, i2, i3, i4, wM_A hm (show 1 < 5 by omega), wM_A hm (show 2 < 5 by omega), wM_A hm (show 3 < 5 by omega), wM_A hm (show 4 < 5 by omega), wM_H, sA_Hn, sH5, not_false_eq_true, lvH_Hq, Option.bind_some, psh_i, psh_n, gM, sM, Nat.reduceLT, Nat.reduceLeDiff, Nat.reduceAdd, Nat.reduceMul]
  · rw [if_neg hw, if_neg hw]
    simp only [e121_0, e121_1, e121_4, e121_6, e121_7, e121_8, e121_9, e121_12, e121_13, e121_14, e121_15, e121_18, e121_19, e121_20, e121_21, e121_24, e121_25, e121_26, e121_27, e121_30, e121_31, e121_32, e121_35, e121_38, e121_39, e121_42, e121_43, e121_44, e121_45, e121_48, e121_49, e121_50, e121_51, e121_54, e121_55, e121_58, e121_59, e121_60, e121_61, e121_62, e121_65, e121_66, e121_67, e121_68, e121_71, e121_72, e121_73, e121_74, e121_77, e121_78, e121_79, e121_80, e121_83, e121_84, e121_85, e121_86, e121_89, e121_91, e121_92, e121_93, e121_94, e121_95, e121_96, e121_97, e121_100, e121_101, e121_102, e121_103, e121_104, e121_105, e121_106, e121_110, e121_111, e121_112, e121_113, e121_116, e121_117, e121_118, e121_121, e121_124, e121_125, e121_126, e121_127, e121_130, e121_131, e121_134, e121_135, e121_138, e121_139, e121_141, e121_142, e121_145, e121_146, e121_147, e121_148, e121_151, e121_152, e121_153, e121_154, e121_157, e121_158, e121_159, e121_160, e121_163, e121_164, e121_165, e121_166, e121_169, e121_170, e121_171, e121_172, e121_175, e121_176, e121_177, e121_178, e121_181, e121_182, e121_183, e121_184, e121_187, e121_188, e121_189, e121_190, e121_193, e121_194, e121_195, e121_197, e121_200, e121_201, e121_202, e121_203, e121_206, e121_207, e121_208, e121_209, e121_212, e121_214, e121_217, e121_218, e121_221, e121_222, e121_223, e121_226, e121_227, e121_230, e121_231, e121_232, e121_233, e121_236, e121_237, e121_238, e121_239, e121_242, e121_245, e121_246, e121_247, e121_248, e121_251, e121_252, e121_253, e121_254, e121_257, e121_258, e121_261, e121_262, e121_265, e121_266, e121_267, e121_268, e121_271, e121_272, e121_275, e121_276, e121_277, e121_278, e121_281, e121_282, e121_283, e121_284, e121_287, e121_288, e121_289, e121_292, e121_293, e121_294, e121_295, e121_298, e121_301, e121_302, en_11, en_12, en_39, en_41, en_42, en_78, i_86, f_86_0, a_87, b_87, n_87, in_H, rM_H, hN, M_ofAct, wA, i1, i2, i3, i4, wM_A hm (show 1 < 5 by omega), wM_A hm (show 2 < 5 by omega), wM_A hm (show 3 < 5 by omega), wM_A hm (show 4 < 5 by omega), wM_H, sA_Hn, sH5, not_false_eq_true, lvH_Hq, Option.bind_some, psh_i, psh_n, gM, sM, Nat.reduceLT, Nat.reduceLeDiff, Nat.reduceAdd, Nat.reduceMul]
theorem L_beg2 {a : Nat} (ha : a < 5) {v x : Int32} : Rr 121 106 [.ref 86, .int (nI a), .int v, .int x, .retAddr 0] [] (HM L g s f) = Rr 121 139 [.ref 86, .int (nI a), .int v, .int x, .retAddr 0] [.int (b2 (s.H 0 = nI 1 ∧ a < wrs s ∧ s.P a 3 = v))] (HM L g s f) := by
  simp only [e121_106, e121_107, e121_110, e121_111, e121_112, e121_113, i_86, f_86_0, a_87, n_87, in_H, rM_H, not_false_eq_true, lvH_Hq, Option.bind_some, psh_i, psh_n, gM, sM, Nat.reduceLT, Nat.reduceLeDiff, Nat.reduceAdd, Nat.reduceMul]
  unfold b2
  by_cases c1 : s.H 0 = nI 1
  · rw [if_neg (fun z => z c1)]
    simp only [e121_116, e121_117, e121_118, e121_121, en_41, i_86, M_isWriter ha, b2_0, ite_not, lvH_Hq, Option.bind_some, psh_i, psh_n, gM, sM, Nat.reduceLT, Nat.reduceLeDiff, Nat.reduceAdd, Nat.reduceMul]
    by_cases c2 : a < wrs s
    · rw [if_pos c2]
      simp only [e121_124, e121_125, e121_126, e121_127, e121_130, e121_131, en_42, i_86, M_its ha, lvH_Hq, Option.bind_some, psh_i, psh_n, gM, sM, Nat.reduceLT, Nat.reduceLeDiff, Nat.reduceAdd, Nat.reduceMul]
      by_cases c3 : s.P a 3 = v
      · rw [if_neg (fun z => z c3), if_pos ⟨c1, c2, c3⟩]
        simp only [e121_134, e121_135]
      · rw [if_pos c3, if_neg (fun z => c3 z.2.2)]
        simp only [e121_138]
    · rw [if_neg c2, if_neg (fun z => c2 z.2.1)]
      simp only [e121_138]
  · rw [if_pos c1, if_neg (fun z => c1 z.1)]
    simp only [e121_138]
theorem L_beg3 {a : Nat} (ha : a < 5) {v x : Int32} {q : Prop} [Decidable q] : ∃ w, Rr 121 139 [.ref 86, .int (nI a), .int v, .int x, .retAddr 0] [.int (b2 q)] (HM L g s f) = Rr 121 237 [.ref 86, .int (nI a), .int v, .int x, w] [] (HM L g (mBegB s a x (if q ∧ s.H 1 = 0 then nI 0 else mAcc s a v)) f) := by
  have p0 := in_P ha (show 0 < 18 by omega)
  have p1 := in_P ha (show 1 < 18 by omega)
  have p2 := in_P ha (show 2 < 18 by omega)
  have p4 := in_P ha (show 4 < 18 by omega)
  have p5 := in_P ha (show 5 < 18 by omega)
  have p7 := in_P ha (show 7 < 18 by omega)
  have mA : ∀ {t : Sx} {i j : Nat} {y : Int32}, mAcc (t.sP i j y) a v = mAcc t a v := fun {t i j y} => rfl
  refine ⟨.int (b2 q), ?_⟩
  simp only [e121_139, e121_141, e121_142, e121_145, e121_146, e121_147, e121_148, e121_151, e121_152, e121_153, e121_154, e121_157, e121_158, e121_159, e121_160, e121_163, e121_164, e121_165, e121_166, e121_169, e121_170, e121_171, e121_172, e121_175, e121_176, e121_177, e121_178, e121_181, e121_182, e121_183, e121_184, e121_187, e121_188, e121_189, e121_190, e121_193, e121_194, e121_195, e121_197, e121_200, e121_201, e121_202, e121_203, e121_206, e121_207, e121_208, e121_209, e121_212, e121_214, en_11, i_86, f_86_0, a_87, b_87, n_87, M_of, p0, p1, p2, p4, p7, wM_P ha (show 0 < 18 by omega), wM_P ha (show 1 < 18 by omega), wM_P ha (show 2 < 18 by omega), wM_P ha (show 4 < 18 by omega), wM_P ha (show 7 < 18 by omega), not_false_eq_true, lvH_Hq, Option.bind_some, psh_i, psh_n, gM, sM, Nat.reduceLT, Nat.reduceLeDiff, Nat.reduceAdd, Nat.reduceMul, b2_0, ite_not]
  unfold mBegB
  by_cases c1 : q
  · rw [if_pos c1]
    simp only [e121_217, e121_218, e121_221, e121_222, e121_223, i_86, f_86_0, a_87, n_87, in_H, rM_H, sP_H, not_false_eq_true, lvH_Hq, Option.bind_some, psh_i, psh_n, gM, sM, Nat.reduceLT, Nat.reduceLeDiff, Nat.reduceAdd, Nat.reduceMul]
    by_cases c2 : s.H 1 = 0
    · rw [if_neg (fun z => z c2), if_pos ⟨c1, c2⟩]
      simp only [e121_226, e121_227, e121_236, b_87, n_87, p5, wM_P ha (show 5 < 18 by omega), not_false_eq_true, lvH_Hq, Option.bind_some, psh_i, psh_n, gM, sM, Nat.reduceLT, Nat.reduceLeDiff, Nat.reduceAdd, Nat.reduceMul]
    · rw [if_pos c2, if_neg (fun z => c2 z.2)]
      simp only [e121_230, e121_231, e121_232, e121_233, e121_236, en_78, i_86, M_accesses ha, mA, b_87, n_87, p5, wM_P ha (show 5 < 18 by omega), not_false_eq_true, lvH_Hq, Option.bind_some, psh_i, psh_n, gM, sM, Nat.reduceLT, Nat.reduceLeDiff, Nat.reduceAdd, Nat.reduceMul]
  · rw [if_neg c1, if_neg (fun z => c1 z.1)]
    simp only [e121_230, e121_231, e121_232, e121_233, e121_236, en_78, i_86, M_accesses ha, mA, b_87, n_87, p5, wM_P ha (show 5 < 18 by omega), not_false_eq_true, lvH_Hq, Option.bind_some, psh_i, psh_n, gM, sM, Nat.reduceLT, Nat.reduceLeDiff, Nat.reduceAdd, Nat.reduceMul]
theorem L_beg4 {a : Nat} (ha : a < 5) {v x : Int32} {w : Value} : Rr 121 237 [.ref 86, .int (nI a), .int v, .int x, w] [] (HM L g s f) = some (some x, HM L g (if a < wrs s then s.sP a 3 (if s.H 0 = nI 1 then v else if s.H 0 = nI 3 ∨ s.H 0 = nI 4 then s.P a 3 + nI 1 else s.P a 3) else s) f) := by
  simp only [e121_237, e121_238, e121_239, e121_242, en_41, i_86, M_isWriter ha, b2_0, ite_not, lvH_Hq, Option.bind_some, psh_i, psh_n, gM, sM, Nat.reduceLT, Nat.reduceLeDiff, Nat.reduceAdd, Nat.reduceMul]
  by_cases hw : a < wrs s
  · rw [if_pos hw, if_pos hw]
    simp only [e121_245, e121_246, e121_247, e121_248, e121_251, e121_252, e121_253, e121_254, i_86, f_86_0, a_87, n_87, in_H, rM_H, not_false_eq_true, lvH_Hq, Option.bind_some, psh_i, psh_n, gM, sM, Nat.reduceLT, Nat.reduceLeDiff, Nat.reduceAdd, Nat.reduceMul]
    by_cases c1 : s.H 0 = nI 1
    · rw [if_neg (fun z => z c1), if_pos c1]
      simp only [e121_0, e121_1, e121_4, e121_6, e121_7, e121_8, e121_9, e121_12, e121_13, e121_14, e121_15, e121_18, e121_19, e121_20, e121_21, e121_24, e121_25, e121_26, e121_27, e121_30, e121_31, e121_32, e121_35, e121_38, e121_39, e121_42, e121_43, e121_44, e121_45, e121_48, e121_49, e121_50, e121_51, e121_54, e121_55, e121_58, e121_59, e121_60, e121_61, e121_62, e121_65, e121_66, e121_67, e121_68, e121_71, e121_72, e121_73, e121_74, e121_77, e121_78, e121_79, e121_80, e121_83, e121_84, e121_85, e121_86, e121_89, e121_91, e121_92, e121_93, e121_94, e121_95, e121_96, e121_97, e121_100, e121_101, e121_102, e121_103, e121_104, e121_105, e121_106, e121_107, e121_110, e121_111, e121_112, e121_113, e121_116, e121_117, e121_118, e121_121, e121_124, e121_125, e121_126, e121_127, e121_130, e121_131, e121_134, e121_135, e121_138, e121_139, e121_141, e121_142, e121_145, e121_146, e121_147, e121_148, e121_151, e121_152, e121_153, e121_154, e121_157, e121_158, e121_159, e121_160, e121_163, e121_164, e121_165, e121_166, e121_169, e121_170, e121_171, e121_172, e121_175, e121_176, e121_177, e121_178, e121_181, e121_182, e121_183, e121_184, e121_187, e121_188, e121_189, e121_190, e121_193, e121_194, e121_195, e121_197, e121_200, e121_201, e121_202, e121_203, e121_206, e121_207, e121_208, e121_209, e121_212, e121_214, e121_217, e121_218, e121_221, e121_222, e121_223, e121_226, e121_227, e121_230, e121_231, e121_232, e121_233, e121_236, e121_237, e121_238, e121_239, e121_245, e121_246, e121_247, e121_248, e121_251, e121_252, e121_253, e121_257, e121_258, e121_261, e121_262, e121_265, e121_266, e121_267, e121_268, e121_271, e121_272, e121_275, e121_276, e121_277, e121_278, e121_281, e121_282, e121_283, e121_284, e121_287, e121_288, e121_289, e121_292, e121_293, e121_294, e121_295, e121_298, e121_301, e121_302, en_11, en_12, en_39, en_41, en_42, en_78, i_86, M_hold ha, lvH_Hq, Option.bind_some, psh_i, psh_n, gM, sM]
    · rw [if_pos c1, if_neg c1]
      simp only [e121_261, e121_262, e121_265, e121_266, e121_267, e121_268, i_86, f_86_0, a_87, n_87, in_H, rM_H, not_false_eq_true, lvH_Hq, Option.bind_some, psh_i, psh_n, gM, sM, Nat.reduceLT, Nat.reduceLeDiff, Nat.reduceAdd, Nat.reduceMul]
      by_cases c2 : s.H 0 = nI 3
      · rw [if_pos c2, if_pos (Or.inl c2)]
        simp only [e121_0, e121_1, e121_4, e121_6, e121_7, e121_8, e121_9, e121_12, e121_13, e121_14, e121_15, e121_18, e121_19, e121_20, e121_21, e121_24, e121_25, e121_26, e121_27, e121_30, e121_31, e121_32, e121_35, e121_38, e121_39, e121_42, e121_43, e121_44, e121_45, e121_48, e121_49, e121_50, e121_51, e121_54, e121_55, e121_58, e121_59, e121_60, e121_61, e121_62, e121_65, e121_66, e121_67, e121_68, e121_71, e121_72, e121_73, e121_74, e121_77, e121_78, e121_79, e121_80, e121_83, e121_84, e121_85, e121_86, e121_89, e121_91, e121_92, e121_93, e121_94, e121_95, e121_96, e121_97, e121_100, e121_101, e121_102, e121_103, e121_104, e121_105, e121_106, e121_107, e121_110, e121_111, e121_112, e121_113, e121_116, e121_117, e121_118, e121_121, e121_124, e121_125, e121_126, e121_127, e121_130, e121_131, e121_134, e121_135, e121_138, e121_139, e121_141, e121_142, e121_145, e121_146, e121_147, e121_148, e121_151, e121_152, e121_153, e121_154, e121_157, e121_158, e121_159, e121_160, e121_163, e121_164, e121_165, e121_166, e121_169, e121_170, e121_171, e121_172, e121_175, e121_176, e121_177, e121_178, e121_181, e121_182, e121_183, e121_184, e121_187, e121_188, e121_189, e121_190, e121_193, e121_194, e121_195, e121_197, e121_200, e121_201, e121_202, e121_203, e121_206, e121_207, e121_208, e121_209, e121_212, e121_214, e121_217, e121_218, e121_221, e121_222, e121_223, e121_226, e121_227, e121_230, e121_231, e121_232, e121_233, e121_236, e121_237, e121_238, e121_239, e121_245, e121_246, e121_247, e121_248, e121_251, e121_252, e121_253, e121_257, e121_258, e121_261, e121_262, e121_265, e121_266, e121_267, e121_271, e121_272, e121_275, e121_276, e121_277, e121_278, e121_281, e121_282, e121_283, e121_284, e121_287, e121_288, e121_289, e121_292, e121_293, e121_294, e121_295, e121_298, e121_301, e121_302, en_11, en_12, en_39, en_41, en_42, en_78, i_86, M_its ha, M_hold ha, lvH_Hq, Option.bind_some, psh_i, psh_n, gM, sM, Nat.reduceLT, Nat.reduceLeDiff, Nat.reduceAdd, Nat.reduceMul]
      · rw [if_neg c2]
        simp only [e121_271, e121_272, e121_275, e121_276, e121_277, e121_278, i_86, f_86_0, a_87, n_87, in_H, rM_H, not_false_eq_true, lvH_Hq, Option.bind_some, psh_i, psh_n, gM, sM, Nat.reduceLT, Nat.reduceLeDiff, Nat.reduceAdd, Nat.reduceMul]
        by_cases c3 : s.H 0 = nI 4
        · rw [if_neg (fun z => z c3), if_pos (Or.inr c3)]
          simp only [e121_0, e121_1, e121_4, e121_6, e121_7, e121_8, e121_9, e121_12, e121_13, e121_14, e121_15, e121_18, e121_19, e121_20, e121_21, e121_24, e121_25, e121_26, e121_27, e121_30, e121_31, e121_32, e121_35, e121_38, e121_39, e121_42, e121_43, e121_44, e121_45, e121_48, e121_49, e121_50, e121_51, e121_54, e121_55, e121_58, e121_59, e121_60, e121_61, e121_62, e121_65, e121_66, e121_67, e121_68, e121_71, e121_72, e121_73, e121_74, e121_77, e121_78, e121_79, e121_80, e121_83, e121_84, e121_85, e121_86, e121_89, e121_91, e121_92, e121_93, e121_94, e121_95, e121_96, e121_97, e121_100, e121_101, e121_102, e121_103, e121_104, e121_105, e121_106, e121_107, e121_110, e121_111, e121_112, e121_113, e121_116, e121_117, e121_118, e121_121, e121_124, e121_125, e121_126, e121_127, e121_130, e121_131, e121_134, e121_135, e121_138, e121_139, e121_141, e121_142, e121_145, e121_146, e121_147, e121_148, e121_151, e121_152, e121_153, e121_154, e121_157, e121_158, e121_159, e121_160, e121_163, e121_164, e121_165, e121_166, e121_169, e121_170, e121_171, e121_172, e121_175, e121_176, e121_177, e121_178, e121_181, e121_182, e121_183, e121_184, e121_187, e121_188, e121_189, e121_190, e121_193, e121_194, e121_195, e121_197, e121_200, e121_201, e121_202, e121_203, e121_206, e121_207, e121_208, e121_209, e121_212, e121_214, e121_217, e121_218, e121_221, e121_222, e121_223, e121_226, e121_227, e121_230, e121_231, e121_232, e121_233, e121_236, e121_237, e121_238, e121_239, e121_245, e121_246, e121_247, e121_248, e121_251, e121_252, e121_253, e121_257, e121_258, e121_261, e121_262, e121_265, e121_266, e121_267, e121_271, e121_272, e121_275, e121_276, e121_277, e121_281, e121_282, e121_283, e121_284, e121_287, e121_288, e121_289, e121_292, e121_293, e121_294, e121_295, e121_298, e121_301, e121_302, en_11, en_12, en_39, en_41, en_42, en_78, i_86, M_its ha, M_hold ha, lvH_Hq, Option.bind_some, psh_i, psh_n, gM, sM, Nat.reduceLT, Nat.reduceLeDiff, Nat.reduceAdd, Nat.reduceMul]
        · rw [if_pos c3, if_neg (fun z => z.elim c2 c3)]
          simp only [e121_0, e121_1, e121_4, e121_6, e121_7, e121_8, e121_9, e121_12, e121_13, e121_14, e121_15, e121_18, e121_19, e121_20, e121_21, e121_24, e121_25, e121_26, e121_27, e121_30, e121_31, e121_32, e121_35, e121_38, e121_39, e121_42, e121_43, e121_44, e121_45, e121_48, e121_49, e121_50, e121_51, e121_54, e121_55, e121_58, e121_59, e121_60, e121_61, e121_62, e121_65, e121_66, e121_67, e121_68, e121_71, e121_72, e121_73, e121_74, e121_77, e121_78, e121_79, e121_80, e121_83, e121_84, e121_85, e121_86, e121_89, e121_91, e121_92, e121_93, e121_94, e121_95, e121_96, e121_97, e121_100, e121_101, e121_102, e121_103, e121_104, e121_105, e121_106, e121_107, e121_110, e121_111, e121_112, e121_113, e121_116, e121_117, e121_118, e121_121, e121_124, e121_125, e121_126, e121_127, e121_130, e121_131, e121_134, e121_135, e121_138, e121_139, e121_141, e121_142, e121_145, e121_146, e121_147, e121_148, e121_151, e121_152, e121_153, e121_154, e121_157, e121_158, e121_159, e121_160, e121_163, e121_164, e121_165, e121_166, e121_169, e121_170, e121_171, e121_172, e121_175, e121_176, e121_177, e121_178, e121_181, e121_182, e121_183, e121_184, e121_187, e121_188, e121_189, e121_190, e121_193, e121_194, e121_195, e121_197, e121_200, e121_201, e121_202, e121_203, e121_206, e121_207, e121_208, e121_209, e121_212, e121_214, e121_217, e121_218, e121_221, e121_222, e121_223, e121_226, e121_227, e121_230, e121_231, e121_232, e121_233, e121_236, e121_237, e121_238, e121_239, e121_245, e121_246, e121_247, e121_248, e121_251, e121_252, e121_253, e121_257, e121_258, e121_261, e121_262, e121_265, e121_266, e121_267, e121_271, e121_272, e121_275, e121_276, e121_277, e121_281, e121_282, e121_283, e121_284, e121_287, e121_288, e121_289, e121_292, e121_293, e121_294, e121_295, e121_298, e121_301, e121_302, en_11, en_12, en_39, en_41, en_42, en_78, i_86, M_its ha, M_hold ha, lvH_Hq, Option.bind_some, psh_i, psh_n, gM, sM, Nat.reduceLT, Nat.reduceLeDiff, Nat.reduceAdd, Nat.reduceMul]
  · rw [if_neg hw, if_neg hw]
    simp only [e121_0, e121_1, e121_4, e121_6, e121_7, e121_8, e121_9, e121_12, e121_13, e121_14, e121_15, e121_18, e121_19, e121_20, e121_21, e121_24, e121_25, e121_26, e121_27, e121_30, e121_31, e121_32, e121_35, e121_38, e121_39, e121_42, e121_43, e121_44, e121_45, e121_48, e121_49, e121_50, e121_51, e121_54, e121_55, e121_58, e121_59, e121_60, e121_61, e121_62, e121_65, e121_66, e121_67, e121_68, e121_71, e121_72, e121_73, e121_74, e121_77, e121_78, e121_79, e121_80, e121_83, e121_84, e121_85, e121_86, e121_89, e121_91, e121_92, e121_93, e121_94, e121_95, e121_96, e121_97, e121_100, e121_101, e121_102, e121_103, e121_104, e121_105, e121_106, e121_107, e121_110, e121_111, e121_112, e121_113, e121_116, e121_117, e121_118, e121_121, e121_124, e121_125, e121_126, e121_127, e121_130, e121_131, e121_134, e121_135, e121_138, e121_139, e121_141, e121_142, e121_145, e121_146, e121_147, e121_148, e121_151, e121_152, e121_153, e121_154, e121_157, e121_158, e121_159, e121_160, e121_163, e121_164, e121_165, e121_166, e121_169, e121_170, e121_171, e121_172, e121_175, e121_176, e121_177, e121_178, e121_181, e121_182, e121_183, e121_184, e121_187, e121_188, e121_189, e121_190, e121_193, e121_194, e121_195, e121_197, e121_200, e121_201, e121_202, e121_203, e121_206, e121_207, e121_208, e121_209, e121_212, e121_214, e121_217, e121_218, e121_221, e121_222, e121_223, e121_226, e121_227, e121_230, e121_231, e121_232, e121_233, e121_236, e121_237, e121_238, e121_239, e121_245, e121_246, e121_247, e121_248, e121_251, e121_252, e121_253, e121_254, e121_257, e121_258, e121_261, e121_262, e121_265, e121_266, e121_267, e121_268, e121_271, e121_272, e121_275, e121_276, e121_277, e121_278, e121_281, e121_282, e121_283, e121_284, e121_287, e121_288, e121_289, e121_292, e121_293, e121_294, e121_295, e121_298, e121_301, e121_302, en_11, en_12, en_39, en_41, en_42, en_78]
theorem M_beginAct {a : Nat} (ha : a < 5) (hN : Ix 7 (s.H 6)) {v : Int32} : Den 121 [.ref 86, .int (nI a), .int v] (HM L g s f) = some (some (s.H 6), HM L g (mBeg s a v) f) := by
  rw [L_beg1 ha hN, L_beg2 ha]
  obtain ⟨w, e⟩ := L_beg3 (L := L) (g := g) (f := f) (s := mBegA s a v) (v := v) (x := s.H 6) (q := (mBegA s a v).H 0 = nI 1 ∧ a < wrs (mBegA s a v) ∧ (mBegA s a v).P a 3 = v) ha
  rw [e, L_beg4 ha]
  have q3 : (mBegB (mBegA s a v) a (s.H 6) (if ((mBegA s a v).H 0 = nI 1 ∧ a < wrs (mBegA s a v) ∧ (mBegA s a v).P a 3 = v) ∧ (mBegA s a v).H 1 = 0 then nI 0 else mAcc (mBegA s a v) a v)).P a 3 = s.P a 3 := by
    unfold mBegB
    rw [sP_nk (by decide), sP_nk (by decide), sP_nk (by decide), sP_nk (by decide), sP_nk (by decide), sP_nk (by decide)]
    rfl
  rw [q3]
  rfl
end MM
