/-! THE LAW'S isWell -/
section IW
variable {L b po bs r n t N k sd a : Nat} {m : Sx} {hs im : Nat → Sx} {kp : Nat → Bool} {is : Nat → Nat} {x y : Int32} {g : Nat → Nat → Int32}
/-- calls that leave every cell as it was -/
theorem K_still (G : GV b po bs r n t N m) (w : KK (mkH b po bs r n t N m k hs kp im is sd) g) :
    (∀ a w, a < N → w < 7 → Den 180 [.ref 1, .int (nI a), .int (nI w)] (HP L g) = some (some (acM m N a w), HP L g)) ∧
    Den 186 [.ref 1, .int (nI 3)] (HP L g) = some (some (nI r), HP L g) ∧ Den 186 [.ref 1, .int (nI 7)] (HP L g) = some (some (nI N), HP L g) ∧ Den 186 [.ref 1, .int (nI 9)] (HP L g) = some (some (nI t), HP L g) := by
  obtain ⟨c, hc, ic, ba, bv, R, H, HM, W, T⟩ := w
  have I := G.1
  have e0 := HP_3 (L := L) T.1
  have e3 : c.H 3 = nI r := (R.1.1 3 (by omega)).trans I.1.2.1.2.2.2.1
  have e6 : c.H 6 = nI N := (R.1.1 6 (by omega)).trans I.1.2.2.1
  have e5 : c.H 5 = nI t := (R.1.1 5 (by omega)).trans I.2
  have eb : ∀ j, j < 19 → b2 (nI 0 ≤ nI j ∧ nI j ≤ nI 18) = nI 1 := fun j hj => if_pos ((rng_n (by omega) (by omega)).mpr ⟨j, by omega, by omega, rfl⟩)
  refine ⟨fun a w ha hw => C_act I R ha hw T, ?_, ?_, ?_⟩
  · rw [e0, D0_186]
    simp only [e186_0, e186_1, e186_2, e186_4, e186_7, e186_10, e186_12, e186_13, e186_14, e186_84, e186_85, e186_88, e186_91, e186_92, e186_93, e186_96, e186_99, e186_100, e186_101, e186_104, e186_106, e186_109, e186_110, e186_111, e186_114, e186_117, e186_118, e186_119, e186_122, e186_123, e186_126, e186_127, e186_128, e186_131, e186_132, e186_135, e186_138, e186_141, e186_142, e186_145, e186_146, e186_147, e186_148, e186_151, e186_152, e186_155, e186_158, e186_159, e186_160, e186_163, e186_164, e186_167, e186_170, e186_171, e186_172, e186_175, e186_176, e186_179, e186_182, e186_183, e186_184, e186_187, e186_190, e186_191, e186_192, e186_195, e186_198, e186_199, e186_200, e186_203, e186_204, e186_207, e186_210, e186_211, e186_212, e186_215, e186_218, e186_219, e186_220, e186_223, e186_224, e186_225, e186_228, e186_229, e186_232, en_5, en_17, en_25, en_35, en_36, en_107, en_108, en_110, en_129, en_133, en_162, en_177, en_178, i_1, i_2, f_1_0, C_within, eb 3 (by decide), K10_19 3 (by decide), Nat.reduceEqDiff, Nat.reduceLT, Nat.reduceLeDiff, Nat.reduceAdd, Nat.reduceMul, one_n0, not_false_eq_true, if_true, if_false, D_get st_2, e3, lvH_Hq, Option.bind_some, psh_i]
  · rw [e0, D0_186]
    simp only [e186_0, e186_1, e186_2, e186_4, e186_7, e186_10, e186_12, e186_13, e186_14, e186_84, e186_85, e186_88, e186_91, e186_92, e186_93, e186_96, e186_99, e186_100, e186_101, e186_104, e186_106, e186_109, e186_110, e186_111, e186_114, e186_117, e186_118, e186_119, e186_122, e186_123, e186_126, e186_127, e186_128, e186_131, e186_132, e186_135, e186_138, e186_141, e186_142, e186_145, e186_146, e186_147, e186_148, e186_151, e186_152, e186_155, e186_158, e186_159, e186_160, e186_163, e186_164, e186_167, e186_170, e186_171, e186_172, e186_175, e186_176, e186_179, e186_182, e186_183, e186_184, e186_187, e186_190, e186_191, e186_192, e186_195, e186_198, e186_199, e186_200, e186_203, e186_204, e186_207, e186_210, e186_211, e186_212, e186_215, e186_218, e186_219, e186_220, e186_223, e186_224, e186_225, e186_228, e186_229, e186_232, en_5, en_17, en_25, en_35, en_36, en_107, en_108, en_110, en_129, en_133, en_162, en_177, en_178, i_1, i_2, f_1_0, C_within, eb 7 (by decide), K10_19 7 (by decide), Nat.reduceEqDiff, Nat.reduceLT, Nat.reduceLeDiff, Nat.reduceAdd, Nat.reduceMul, one_n0, not_false_eq_true, if_true, if_false, D_get st_2, e6, lvH_Hq, Option.bind_some, psh_i]
  · rw [e0, D0_186]
    simp only [e186_0, e186_1, e186_2, e186_4, e186_7, e186_10, e186_12, e186_13, e186_14, e186_84, e186_85, e186_88, e186_91, e186_92, e186_93, e186_96, e186_99, e186_100, e186_101, e186_104, e186_106, e186_109, e186_110, e186_111, e186_114, e186_117, e186_118, e186_119, e186_122, e186_123, e186_126, e186_127, e186_128, e186_131, e186_132, e186_135, e186_138, e186_141, e186_142, e186_145, e186_146, e186_147, e186_148, e186_151, e186_152, e186_155, e186_158, e186_159, e186_160, e186_163, e186_164, e186_167, e186_170, e186_171, e186_172, e186_175, e186_176, e186_179, e186_182, e186_183, e186_184, e186_187, e186_190, e186_191, e186_192, e186_195, e186_198, e186_199, e186_200, e186_203, e186_204, e186_207, e186_210, e186_211, e186_212, e186_215, e186_218, e186_219, e186_220, e186_223, e186_224, e186_225, e186_228, e186_229, e186_232, en_5, en_17, en_25, en_35, en_36, en_107, en_108, en_110, en_129, en_133, en_162, en_177, en_178, i_1, i_2, f_1_0, C_within, eb 9 (by decide), K10_19 9 (by decide), Nat.reduceEqDiff, Nat.reduceLT, Nat.reduceLeDiff, Nat.reduceAdd, Nat.reduceMul, one_n0, not_false_eq_true, if_true, if_false, D_get st_2, e5, lvH_Hq, Option.bind_some, psh_i]
theorem m1_lt {j : Nat} (h : j < 2147483648) : ¬ nI j ≤ -1 := fun z => by
  have h0 : (0 : Int32) ≤ nI j := (nI_leI (a := 0) (by omega) h).mpr (Nat.zero_le _)
  exact absurd (Int32.le_trans h0 z) (by decide)
theorem W_body (G : GV b po bs r n t N m) (w : KK (mkH b po bs r n t N m k hs kp im is sd) g) (ha : a < N) {u : Nat} (v3 v4 : Value) :
    ∃ v3' v4', Rr 7 4 [.ref 1, .int (nI u), .int (nI a), v3, v4] [] (HP L g) = Rr 7 4 [.ref 1, .int (nI (if m.A a 3 = -1 then u + 1 else u)), .int (nI (a + 1)), v3', v4'] [] (HP L g) := by
  have hN := G.1.1.2.2.2.1
  have ht := tm_le G.1.1
  have hr4 := G.1.1.1.2.2.2.2.1
  obtain ⟨dA, d3, d7, d9⟩ := K_still (L := L) G w
  obtain ⟨s, hs', f3, f4, f2, f6, f1, fm⟩ := act_f G ha
  have x4 : acM m N a 4 = m.A a 3 := rfl
  rw [← x4]
  have a1 := dA a 1 ha (by decide)
  have a2 := dA a 2 ha (by decide)
  have a3 := dA a 3 ha (by decide)
  have a4 := dA a 4 ha (by decide)
  have a5 := dA a 5 ha (by decide)
  have a6 := dA a 6 ha (by decide)
  rw [f3] at a3 fm
  have ap : ¬ a = 0 → Den 180 [.ref 1, .int (nI a - nI 1), .int (nI 3)] (HP L g) = some (some (acM m N (a - 1) 3), HP L g) := fun z => by
    have e : nI a - nI 1 = nI (a - 1) := by
      have : nI a = nI (a - 1) + nI 1 := by rw [nI_add, show a - 1 + 1 = a by omega]
      rw [this]
      exact Int32.add_sub_cancel ..
    rw [e]
    exact dA (a - 1) 3 (by omega) (by decide)
  have hm : ¬ a = 0 → ¬ nI s ≤ acM m N (a - 1) 3 := fun z => Int32.not_le.mpr (fm (a - 1) (by omega))
  generalize acM m N a 1 = q1 at *
  generalize acM m N a 2 = q2 at *
  generalize acM m N a 4 = q4 at *
  generalize acM m N a 5 = q5 at *
  generalize acM m N a 6 = q6 at *
  generalize acM m N (a - 1) 3 = qm at *
  have ha' : ¬ nI N ≤ nI a := nI_ge ha (by omega)
  have hts : ¬ nI t ≤ nI s := nI_ge hs' (by omega)
  have hr2 : ¬ nI r ≤ q2 := by
    rcases f2 with z | ⟨x, hx, z⟩
    · rw [z]
      exact m1_lt (by omega)
    · rw [z]
      exact nI_ge hx (by omega)
  have n10 : ¬ nI 1 = 0 := by decide
  have c1 : Rr 7 4 [.ref 1, .int (nI u), .int (nI a), v3, v4] [] (HP L g) = Rr 7 21 [.ref 1, .int (nI u), .int (nI a), .int q4, v4] [] (HP L g) := by
    simp only [e7_4, e7_5, e7_6, e7_8, e7_11, e7_14, e7_15, e7_16, e7_17, e7_20, en_180, en_186, i_1, d7, a4, ha', if_false, lvH_Hq, Option.bind_some, psh_i, psh_n, Hq_G, Hq_setG, upf_same, upf_upf]
  have c2 : Rr 7 21 [.ref 1, .int (nI u), .int (nI a), .int q4, v4] [] (HP L g) = Rr 7 94 [.ref 1, .int (nI u), .int (nI a), .int q4, v4] [.int (nI 1)] (HP L g) := by
    rcases f4 with ⟨z, z2⟩ | ⟨e, he, he2, z⟩
    · have z3 : ¬ (0 : Int32) ≤ -1 := by decide
      rw [z2] at a2 hr2
      rw [z]
      simp only [e7_21, e7_22, e7_23, e7_24, e7_27, e7_28, e7_30, e7_33, e7_36, e7_37, e7_38, e7_41, e7_42, e7_43, e7_44, e7_45, e7_48, e7_51, e7_52, e7_53, e7_55, e7_58, e7_61, e7_62, e7_63, e7_64, e7_67, e7_68, e7_69, e7_72, e7_75, e7_76, e7_79, e7_80, e7_81, e7_82, e7_85, e7_86, e7_89, e7_90, e7_93, en_180, en_186, i_1, d9, d3, a3, a2, hts, hr2, z3, not_true_eq_false, if_true, if_false, lvH_Hq, Option.bind_some, psh_i, psh_n, Hq_G, Hq_setG, upf_same, upf_upf]
    · have z0 : ¬ nI e = -1 := nI_nm1 (by omega)
      have z1 : ¬ nI e ≤ nI s := nI_ge he (by omega)
      have z2 : ¬ nI t ≤ nI e := nI_ge he2 (by omega)
      have z3 : (0 : Int32) ≤ nI e := (nI_leI (a := 0) (by omega) (by omega)).mpr (Nat.zero_le _)
      rw [z]
      simp only [e7_21, e7_22, e7_23, e7_24, e7_27, e7_28, e7_30, e7_33, e7_36, e7_37, e7_38, e7_41, e7_42, e7_43, e7_44, e7_45, e7_48, e7_51, e7_52, e7_53, e7_55, e7_58, e7_61, e7_62, e7_63, e7_64, e7_67, e7_68, e7_69, e7_72, e7_75, e7_76, e7_79, e7_80, e7_81, e7_82, e7_85, e7_86, e7_89, e7_90, e7_93, en_180, en_186, i_1, d9, d3, a3, a2, hts, hr2, z0, z1, z2, z3, not_true_eq_false, if_true, if_false, lvH_Hq, Option.bind_some, psh_i, psh_n, Hq_G, Hq_setG, upf_same, upf_upf]
  have c3 : Rr 7 101 [.ref 1, .int (nI u), .int (nI a), .int q4, .int (nI 1)] [] (HP L g) = Rr 7 122 [.ref 1, .int (nI u), .int (nI a), .int q4, .int (nI 1)] [] (HP L g) := by
    by_cases z : q6 = nI 1
    · have z2 := f6 z
      rw [z] at a6
      rw [z2] at a5
      simp only [e7_101, e7_102, e7_103, e7_105, e7_108, e7_109, e7_112, e7_113, e7_114, e7_115, e7_118, e7_119, en_180, i_1, a6, a5, not_true_eq_false, if_false, lvH_Hq, Option.bind_some, psh_i, psh_n, Hq_G, Hq_setG, upf_same, upf_upf]
    · simp only [e7_101, e7_102, e7_103, e7_105, e7_108, e7_109, en_180, i_1, a6, z, not_false_eq_true, if_true, lvH_Hq, Option.bind_some, psh_i, psh_n, Hq_G, Hq_setG, upf_same, upf_upf]
  have c4 : Rr 7 122 [.ref 1, .int (nI u), .int (nI a), .int q4, .int (nI 1)] [] (HP L g) = Rr 7 157 [.ref 1, .int (nI u), .int (nI a), .int q4, .int (nI 1)] [.int (nI 1)] (HP L g) := by
    by_cases z : q1 = -1
    · rw [z] at a1
      simp only [e7_122, e7_123, e7_124, e7_125, e7_128, e7_129, en_180, e7_152, e7_153, i_1, a1, if_true, lvH_Hq, Option.bind_some, psh_i, psh_n, Hq_G, Hq_setG, upf_same, upf_upf]
    · obtain ⟨z2, z3⟩ := f1.resolve_left z
      rw [z2] at a2
      rw [z3] at a5
      simp only [e7_122, e7_123, e7_124, e7_125, e7_128, e7_129, e7_132, e7_133, e7_134, e7_135, e7_138, e7_139, e7_142, e7_143, e7_144, e7_145, e7_148, e7_149, e7_152, e7_153, en_180, i_1, a1, a2, a5, z, not_true_eq_false, if_false, lvH_Hq, Option.bind_some, psh_i, psh_n, Hq_G, Hq_setG, upf_same, upf_upf]
  have c5 : Rr 7 164 [.ref 1, .int (nI u), .int (nI a), .int q4, .int (nI 1)] [] (HP L g) = Rr 7 190 [.ref 1, .int (nI u), .int (nI a), .int q4, .int (nI 1)] [.int (nI 1)] (HP L g) := by
    by_cases z : a = 0
    · subst z
      simp only [e7_164, e7_165, e7_185, e7_186, zz, if_true]
    · have z1 : ¬ nI a = 0 := fun z2 => z ((nI_eq (b := 0) (by omega) (by omega)).mp z2)
      have ap := ap z
      have hm := hm z
      simp only [e7_164, e7_165, e7_168, e7_169, e7_170, e7_171, e7_174, e7_175, e7_176, e7_177, e7_178, e7_179, e7_182, e7_185, e7_186, en_180, i_1, a3, ap, hm, z1, if_false, lvH_Hq, Option.bind_some, psh_i, psh_n, Hq_G, Hq_setG, upf_same, upf_upf]
  have c6 : Rr 7 199 [.ref 1, .int (nI u), .int (nI a), .int q4, .int (nI 1)] [] (HP L g) = Rr 7 4 [.ref 1, .int (nI (if q4 = -1 then u + 1 else u)), .int (nI (a + 1)), .int q4, .int (nI 1)] [] (HP L g) := by
    rcases f4 with ⟨z, -⟩ | ⟨e, he, he2, z⟩
    · have z3 : ¬ (0 : Int32) ≤ -1 := by decide
      rw [z, if_pos rfl]
      simp only [e7_199, e7_200, e7_203, e7_204, e7_205, e7_206, e7_209, e7_210, e7_211, e7_214, z3, if_false, nI_add]
    · have z0 : ¬ nI e = -1 := nI_nm1 (by omega)
      have z3 : (0 : Int32) ≤ nI e := (nI_leI (a := 0) (by omega) (by omega)).mpr (Nat.zero_le _)
      rw [z, if_neg z0]
      simp only [e7_199, e7_200, e7_203, e7_204, e7_205, e7_206, e7_209, e7_210, e7_211, e7_214, z3, if_true, nI_add]
  refine ⟨.int q4, .int (nI 1), ?_⟩
  rw [c1, c2]
  simp only [e7_94, e7_96, e7_98, n10, if_false]
  rw [c3, c4]
  simp only [e7_157, e7_159, e7_161, n10, if_false]
  rw [c5]
  simp only [e7_190, e7_192, e7_194, n10, not_false_eq_true, if_true]
  exact c6
theorem W_loop (G : GV b po bs r n t N m) (w : KK (mkH b po bs r n t N m k hs kp im is sd) g) : ∀ d a (v3 v4 : Value), a + d = N → ∃ v3' v4', Rr 7 4 [.ref 1, .int (nI (cnE m a)), .int (nI a), v3, v4] [] (HP L g) = Rr 7 217 [.ref 1, .int (nI (cnE m N)), .int (nI N), v3', v4'] [] (HP L g)
  | 0, a, v3, v4, h => by
    have : a = N := by omega
    subst this
    obtain ⟨dA, d3, d7, d9⟩ := K_still (L := L) G w
    refine ⟨v3, v4, ?_⟩
    simp only [e7_4, e7_5, e7_6, e7_8, e7_11, en_186, i_1, d7, Int32.le_refl, if_true, lvH_Hq, Option.bind_some, psh_i, psh_n, Hq_G, Hq_setG, upf_same, upf_upf]
  | d + 1, a, v3, v4, h => by
    obtain ⟨v5, v6, e⟩ := W_body (L := L) G w (show a < N by omega) (u := cnE m a) v3 v4
    obtain ⟨v7, v8, e2⟩ := W_loop G w d (a + 1) v5 v6 (by omega)
    refine ⟨v7, v8, e.trans ?_⟩
    have ec : (if m.A a 3 = -1 then cnE m a + 1 else cnE m a) = cnE m (a + 1) := by
      have : cnE m (a + 1) = cnE m a + (if m.A a 3 = -1 then 1 else 0) := rfl
      rw [this]
      split <;> rfl
    rw [ec]
    exact e2
theorem O_well (G : GV b po bs r n t N m) : Op L 7 [] (mkH b po bs r n t N m k hs kp im is sd) (nI 1) (mkH b po bs r n t N m k hs kp im is sd) := by
  intro g w
  have hN := G.1.1.2.2.2.1
  obtain ⟨v3, v4, e⟩ := W_loop (L := L) G w N 0 (.retAddr 0) (.retAddr 0) (by omega)
  have e0 : cnE m 0 = 0 := rfl
  rw [e0] at e
  have hd : Den 7 [.ref 1] (HP L g) = Rr 7 4 [.ref 1, .int (nI 0), .int (nI 0), .retAddr 0, .retAddr 0] [] (HP L g) := by
    rw [D0_7]
    simp only [e7_0, e7_1, e7_2, e7_3]
  rw [hd, e]
  have cnt := cnE_P G.1
  have t8 : tlM m N (wN b + n) (clN b r n) k sd 0 (fun _ => 0) (fun _ => 0) 8 = nI (cnE m N) := by
    rw [cnt]
    exact cntU_P _
  have t10 : tlM m N (wN b + n) (clN b r n) k sd 0 (fun _ => 0) (fun _ => 0) 10 = b2c (hAt (hyM m) N) := rfl
  have t11 : tlM m N (wN b + n) (clN b r n) k sd 0 (fun _ => 0) (fun _ => 0) 11 = fstF (rdP m N 0) 0 N := rfl
  have t12 : tlM m N (wN b + n) (clN b r n) k sd 0 (fun _ => 0) (fun _ => 0) 12 = fstF (rdP m N 1) 0 N := rfl
  have t13 : tlM m N (wN b + n) (clN b r n) k sd 0 (fun _ => 0) (fun _ => 0) 13 = fstF (rdP m N 2) 0 N := rfl
  have n10 : ¬ nI 1 = 0 := by decide
  -- the end: what comes behind told(12) is asked
  have tl : ∀ g v1 v2 v3 v4, KK (mkH b po bs r n t N m k hs kp im is sd) g → ∃ g', Rr 7 267 [.ref 1, v1, v2, v3, v4] [] (HP L g) = some (some (nI 1), HP L g') ∧ KK (mkH b po bs r n t N m k hs kp im is sd) g' ∧ frC g g' := by
    intro g v1 v2 v3 v4 w
    obtain ⟨g1, d1, w1, F1⟩ := O_told (L := L) G (show 12 < 19 by decide) g w
    rw [t12] at d1
    have fin : ∀ g, KK (mkH b po bs r n t N m k hs kp im is sd) g → Rr 7 286 [.ref 1, v1, v2, v3, v4] [] (HP L g) = some (some (nI 1), HP L g) := by
      intro g w
      obtain ⟨dA, d3, d7, d9⟩ := K_still (L := L) G w
      have d0 : Den 180 [.ref 1, .int (nI N), .int (nI 0)] (HP L g) = some (some (-1000000001), HP L g) := by
        obtain ⟨c, hc, ic, ba, bv, R, H, HM, W, T⟩ := w
        refine C_act0 G.1 R (fun z => ?_) T
        obtain ⟨j, hj, z⟩ := z
        have := (nI_eq (by omega) (by omega)).mp z
        omega
      simp only [e7_286, e7_287, e7_288, e7_290, e7_293, e7_294, e7_297, e7_299, e7_302, e7_303, en_180, en_186, e7_307, i_1, d7, d0, not_true_eq_false, if_false, one_01, lvH_Hq, Option.bind_some, psh_i, psh_n, Hq_G, Hq_setG, upf_same, upf_upf]
    rcases fstF_cs (P := rdP m N 1) (dP := inferInstance) N 0 with ⟨e12, -⟩ | ⟨i, -, hi, -, e12⟩
    · have e11 := told_sf hN e12
      rw [e12] at d1
      obtain ⟨g2, d2, w2, F2⟩ := O_told (L := L) G (show 11 < 19 by decide) g1 w1
      rw [t11, e11] at d2
      have z3 : ¬ (0 : Int32) ≤ -1 := by decide
      refine ⟨g2, ?_, w2, frC_t F1 F2⟩
      rw [← fin g2 w2]
      simp only [e7_267, e7_268, e7_270, e7_273, e7_276, e7_277, e7_279, e7_282, e7_283, en_186, i_1, d1, d2, z3, not_true_eq_false, if_false, lvH_Hq, Option.bind_some, psh_i, psh_n, Hq_G, Hq_setG, upf_same, upf_upf]
    · have z3 : (0 : Int32) ≤ nI i := (nI_leI (a := 0) (by omega) (by omega)).mpr (Nat.zero_le _)
      rw [e12] at d1
      refine ⟨g1, ?_, w1, F1⟩
      rw [← fin g1 w1]
      simp only [e7_267, e7_268, e7_270, e7_273, en_186, i_1, d1, z3, if_true, lvH_Hq, Option.bind_some, psh_i, psh_n, Hq_G, Hq_setG, upf_same, upf_upf]
  obtain ⟨g1, d1, w1, F1⟩ := O_told (L := L) G (show 10 < 19 by decide) g w
  rw [t10] at d1
  obtain ⟨g2, d2, w2, F2⟩ := O_told (L := L) G (show 8 < 19 by decide) g1 w1
  rw [t8] at d2
  by_cases A : hAt (hyM m) N
  · rw [b2c_t A] at d1
    obtain ⟨e12, e13⟩ := told_at G.1 A
    obtain ⟨g3, d3, w3, F3⟩ := O_told (L := L) G (show 12 < 19 by decide) g2 w2
    rw [t12, e12] at d3
    obtain ⟨g4, d4, w4, F4⟩ := O_told (L := L) G (show 13 < 19 by decide) g3 w3
    rw [t13, e13] at d4
    obtain ⟨g5, e5, w5, F5⟩ := tl g4 (.int (nI (cnE m N))) (.int (nI 1)) v3 v4 w4
    refine ⟨g5, ?_, w5, frC_t F1 (frC_t F2 (frC_t F3 (frC_t F4 F5)))⟩
    rw [← e5]
    simp only [e7_217, e7_218, e7_220, e7_223, e7_224, e7_227, e7_228, e7_231, e7_232, e7_233, e7_234, e7_235, e7_237, e7_240, e7_243, e7_244, e7_247, e7_248, e7_250, e7_253, e7_254, e7_257, e7_258, e7_260, e7_263, e7_264, en_186, i_1, d1, d2, d3, d4, n10, not_true_eq_false, if_false, lvH_Hq, Option.bind_some, psh_i, psh_n, Hq_G, Hq_setG, upf_same, upf_upf]
  · rw [b2c_f A] at d1
    obtain ⟨g5, e5, w5, F5⟩ := tl g2 (.int (nI (cnE m N))) (.int (nI 0)) v3 v4 w2
    refine ⟨g5, ?_, w5, frC_t F1 (frC_t F2 F5)⟩
    have z10 : ¬ nI 0 = nI 1 := by decide
    rw [← e5]
    simp only [e7_217, e7_218, e7_220, e7_223, e7_224, e7_227, e7_228, e7_231, e7_232, e7_233, e7_234, e7_235, e7_237, e7_240, e7_243, e7_244, en_186, i_1, d1, d2, z10, zz, not_true_eq_false, not_false_eq_true, if_true, if_false, lvH_Hq, Option.bind_some, psh_i, psh_n, Hq_G, Hq_setG, upf_same, upf_upf]
end IW
