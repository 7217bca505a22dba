/-! THE CLASS' CALLS: told -/
section RR
variable {L : Nat} {g g' : Nat → Nat → Int32} {c m s : Sx} {k : Nat} {hc : Nat → Sx} {kp : Nat → Bool} {ic : Nat → Sx} {is : Nat → Nat} {sd bk : Nat} {ba bv : Nat → Int32} {b po bs r n t N : Nat} {x y : Int32}
theorem fst_c {P Q : Nat → Prop} [DecidablePred P] [DecidablePred Q] : ∀ d j, (∀ i, j ≤ i → i < j + d → (P i ↔ Q i)) → fstF P j d = fstF Q j d
  | 0, j, _ => rfl
  | d + 1, j, h => by
    unfold fstF
    rw [fst_c d (j + 1) (fun i h1 h2 => h i (by omega) (by omega))]
    by_cases c : P j
    · rw [if_pos c, if_pos ((h j (by omega) (by omega)).mp c)]
    · rw [if_neg c, if_neg (fun z => c ((h j (by omega) (by omega)).mpr z))]
theorem cntU_c {c m : Sx} : ∀ d, (∀ p, p < d → c.P p 0 = m.P p 0) → cntU c d = cntU m d
  | 0, _ => rfl
  | d + 1, h => by
    unfold cntU
    rw [cntU_c d (fun p hp => h p (by omega)), h d (by omega)]
theorem cntU_0 {m : Sx} {a : Nat} : ∀ d, (∀ p, a ≤ p → p < a + d → m.P p 0 = -1) → cntU m (a + d) = cntU m a
  | 0, _ => rfl
  | d + 1, h => by
    have e : cntU m (a + (d + 1)) = cntU m (a + d) := if_pos (h (a + d) (by omega) (by omega))
    rw [e, cntU_0 d (fun p h1 h2 => h p h1 (by omega))]
theorem gst_c {c m : Sx} : ∀ d, (∀ i, i < d → c.C i = m.C i) → gst c d = gst m d
  | 0, _ => rfl
  | d + 1, h => by
    unfold gst
    rw [gst_c d (fun p hp => h p (by omega)), h d (by omega)]
theorem gst_0 {m : Sx} : ∀ d, (∀ i, i < d → Ix 4 (m.C i)) → gst m d = nI 0
  | 0, _ => rfl
  | d + 1, h => by
    obtain ⟨a, ha, e⟩ := h d (by omega)
    have e2 : m.C d / nI 100 = nI 0 := by
      rw [e, pk_div (by omega) (by omega) (by omega), Nat.div_eq_of_lt (by omega)]
    have ih := gst_0 (m := m) d (fun i hi => h i (by omega))
    unfold gst
    rw [ih, e2, if_neg (by decide)]
abbrev wrgC (c : Sx) (ba bv : Nat → Int32) (i : Nat) : Prop := ¬ ba i < c.H 6 ∨ ¬ c.A (ix (ba i)) 2 = bv i
theorem L_fWrong (hN : c.H 6 = nI N) (h7 : N ≤ 7) (hb : bk ≤ 20) (h2 : g 83 2 = nI bk) (hbk : ∀ i, i < bk → g 84 i = ba i ∧ g 85 i = bv i ∧ Ix 7 (ba i)) (h3 : g 3 = lay c) : ∀ d j, j + d = bk → Rr 36 2 [.ref 83, .ref 2, .int (nI j)] [] (HP L g) = some (some (fstF (wrgC c ba bv) j d), HP L g)
  | 0, j, h => by
    have : j = bk := by omega
    subst this
    rw [e36_2]
    simp only [e36_0, e36_1, e36_3, e36_4, e36_7, e36_10, e36_11, e36_13, e36_16, e36_17, e36_20, e36_21, e36_22, e36_23, e36_25, e36_28, e36_31, e36_32, e36_33, e36_36, e36_37, e36_38, e36_39, e36_42, e36_43, e36_46, e36_47, e36_48, e36_51, e36_52, e36_53, e36_56, e36_59, e36_60, en_25, en_29, i_83, Hq_G, h2, Int32.le_refl, if_true]
    rfl
  | d + 1, j, h => by
    have hj : j < bk := by omega
    have h1 : ¬ nI bk ≤ nI j := nI_ge hj (by omega)
    have h20 : ¬ nI 20 ≤ nI j := nI_ge (by omega) (by omega)
    have ih := L_fWrong hN h7 hb h2 hbk h3 d (j + 1) (by omega)
    obtain ⟨q1, q2, a, ha, ea⟩ := hbk j hj
    have a3 : (nI j).toNatClampNeg = j := nI_clamp (by omega)
    have a4 : ¬ (nI j < 0 ∨ 20 ≤ j) := fun z => z.elim (nI_pos (by omega)) (by omega)
    have d1 := D_get (g := g) (s := c) (st_2 (L := L)) (show 6 < 7 by omega)
    have d2 := D_ofAct (g := g) (s := c) (st_2 (L := L)) (show a < 7 by omega) (show 2 < 5 by omega)
    rw [upf_eq h3] at d1 d2
    have eix : ix (ba j) = a := by rw [ea, ix_nI (by omega)]
    have d3 : Den 29 [.ref 2, .int (ba j), .int (nI 2)] (HP L g) = some (some (c.A (ix (ba j)) 2), HP L g) := by
      rw [eix, ea]
      exact d2
    rw [fstF, e36_2]
    generalize fstF (wrgC c ba bv) (j + 1) d = T at ih ⊢
    simp only [e36_0, e36_1, e36_3, e36_4, e36_7, e36_10, e36_11, e36_13, e36_16, e36_17, e36_20, e36_21, e36_22, e36_23, e36_25, e36_28, e36_31, e36_32, e36_33, e36_36, e36_37, e36_38, e36_39, e36_42, e36_43, e36_46, e36_47, e36_48, e36_51, e36_52, e36_53, e36_56, e36_59, e36_60, en_25, en_29, i_2, i_83, f_83_0, f_83_1, a_84, n_84, a_85, n_85, Hq_G, h2, h1, h20, if_false, a3, a4, q1, q2, d1, d3, not_false_eq_true, lvH_Hq, Option.bind_some, psh_i, psh_n, nI_add]
    unfold wrgC
    by_cases w : c.H 6 ≤ ba j
    · rw [if_pos w, if_pos (Or.inl (Int32.not_lt.mpr w))]
    · rw [if_neg w]
      by_cases w2 : c.A (ix (ba j)) 2 = bv j
      · rw [if_pos w2, if_neg (fun z => z.elim (fun z => z (Int32.not_le.mp w)) (fun z => z w2))]
        exact ih
      · rw [if_neg w2, if_pos (Or.inr w2)]
theorem C_told_out (hx : ¬ ∃ j, j < 19 ∧ x = nI j) : Den 186 [.ref 1, .int x] (HP L g) = some (some (-1000000002), HP L g) := by
  have e : b2 (nI 0 ≤ x ∧ x ≤ nI 18) = nI 0 := if_neg (fun z => by
    obtain ⟨j, -, h2, e⟩ := (rng_n (by omega) (by omega)).mp z
    exact hx ⟨j, by omega, e⟩)
  rw [D0_186]
  simp only [e186_0, e186_1, e186_2, e186_4, e186_7, e186_10, e186_12, e186_13, e186_14, e186_84, e186_85, e186_88, e186_91, e186_92, e186_93, e186_96, e186_99, e186_100, e186_101, e186_104, e186_106, e186_109, e186_110, e186_111, e186_114, e186_117, e186_118, e186_119, e186_122, e186_123, e186_126, e186_127, e186_128, e186_131, e186_132, e186_135, e186_138, e186_141, e186_142, e186_145, e186_146, e186_147, e186_148, e186_151, e186_152, e186_155, e186_158, e186_159, e186_160, e186_163, e186_164, e186_167, e186_170, e186_171, e186_172, e186_175, e186_176, e186_179, e186_182, e186_183, e186_184, e186_187, e186_190, e186_191, e186_192, e186_195, e186_198, e186_199, e186_200, e186_203, e186_204, e186_207, e186_210, e186_211, e186_212, e186_215, e186_218, e186_219, e186_220, e186_223, e186_224, e186_225, e186_228, e186_229, e186_232, en_5, en_17, en_25, en_35, en_36, en_107, en_108, en_110, en_129, en_133, en_162, en_177, en_178, i_1, C_within, e, zz, not_true_eq_false, if_false, lvH_Hq, Option.bind_some, psh_i]
theorem C_told (hb : bk ≤ 20) (hbk : ∀ i, i < bk → Ix 7 (ba i)) (I : Iv b po bs r n t N m) (R : Rl c m) {j : Nat} (hj : j < 19) (T : KT c k hc kp ic is sd bk ba bv g) : ∃ g', Den 186 [.ref 1, .int (nI j)] (HP L g) = some (some (tlM m N (wN b + n) (clN b r n) k sd bk ba bv j), HP L g') ∧ KT c k hc kp ic is sd bk ba bv g' ∧ g' 7 = g 7 ∧ g' 53 = g 53 ∧ frC g g' := by
  have T0 := T
  have I0 := I
  have HI := Iv_hI I.1
  obtain ⟨ok, sh, h6, hN, hC, -⟩ := I.1
  have shc := shC R sh
  have hp := prcs_b shc ok.1
  have hnp := np_le ok
  have hcl := clls_b shc ok.1
  have hc9 := clN_9 ok
  have hy := hyEq R.1
  have h6c : c.H 6 = nI N := (R.1.1 6 (by omega)).trans h6
  obtain ⟨t3, t1, ⟨o, ho, o1, o2, o3⟩, t4, t5, t6, t7⟩ := T
  have eb : b2 (nI 0 ≤ nI j ∧ nI j ≤ nI 18) = nI 1 := if_pos ((rng_n (by omega) (by omega)).mpr ⟨j, by omega, by omega, rfl⟩)
  have e0 := HP_3 (L := L) t3
  have hJ : ∀ a, hJd c a ↔ hJm m a := fun a => hJd_m R
  match j, hj with
  | 0, _ =>
    refine ⟨g, ?_, T0, rfl, rfl, frC_r⟩
    rw [e0, D0_186]
    simp only [e186_0, e186_1, e186_2, e186_4, e186_7, e186_10, e186_12, e186_13, e186_14, e186_84, e186_85, e186_88, e186_91, e186_92, e186_93, e186_96, e186_99, e186_100, e186_101, e186_104, e186_106, e186_109, e186_110, e186_111, e186_114, e186_117, e186_118, e186_119, e186_122, e186_123, e186_126, e186_127, e186_128, e186_131, e186_132, e186_135, e186_138, e186_141, e186_142, e186_145, e186_146, e186_147, e186_148, e186_151, e186_152, e186_155, e186_158, e186_159, e186_160, e186_163, e186_164, e186_167, e186_170, e186_171, e186_172, e186_175, e186_176, e186_179, e186_182, e186_183, e186_184, e186_187, e186_190, e186_191, e186_192, e186_195, e186_198, e186_199, e186_200, e186_203, e186_204, e186_207, e186_210, e186_211, e186_212, e186_215, e186_218, e186_219, e186_220, e186_223, e186_224, e186_225, e186_228, e186_229, e186_232, en_5, en_17, en_25, en_35, en_36, en_107, en_108, en_110, en_129, en_133, en_162, en_177, en_178, i_1, i_2, f_1_0, C_within, eb, K10_19 0 (by decide), Nat.reduceEqDiff, Nat.reduceLT, Nat.reduceLeDiff, Nat.reduceAdd, Nat.reduceMul, one_n0, not_false_eq_true, if_true, if_false, D_get st_2, R.1.1 0 (by omega), lvH_Hq, Option.bind_some, psh_i]
    rfl
  | 1, _ =>
    refine ⟨g, ?_, T0, rfl, rfl, frC_r⟩
    rw [e0, D0_186]
    simp only [e186_0, e186_1, e186_2, e186_4, e186_7, e186_10, e186_12, e186_13, e186_14, e186_84, e186_85, e186_88, e186_91, e186_92, e186_93, e186_96, e186_99, e186_100, e186_101, e186_104, e186_106, e186_109, e186_110, e186_111, e186_114, e186_117, e186_118, e186_119, e186_122, e186_123, e186_126, e186_127, e186_128, e186_131, e186_132, e186_135, e186_138, e186_141, e186_142, e186_145, e186_146, e186_147, e186_148, e186_151, e186_152, e186_155, e186_158, e186_159, e186_160, e186_163, e186_164, e186_167, e186_170, e186_171, e186_172, e186_175, e186_176, e186_179, e186_182, e186_183, e186_184, e186_187, e186_190, e186_191, e186_192, e186_195, e186_198, e186_199, e186_200, e186_203, e186_204, e186_207, e186_210, e186_211, e186_212, e186_215, e186_218, e186_219, e186_220, e186_223, e186_224, e186_225, e186_228, e186_229, e186_232, en_5, en_17, en_25, en_35, en_36, en_107, en_108, en_110, en_129, en_133, en_162, en_177, en_178, i_1, i_2, f_1_0, C_within, eb, K10_19 1 (by decide), Nat.reduceEqDiff, Nat.reduceLT, Nat.reduceLeDiff, Nat.reduceAdd, Nat.reduceMul, one_n0, not_false_eq_true, if_true, if_false, D_get st_2, R.1.1 1 (by omega), lvH_Hq, Option.bind_some, psh_i]
    rfl
  | 2, _ =>
    refine ⟨g, ?_, T0, rfl, rfl, frC_r⟩
    rw [e0, D0_186]
    simp only [e186_0, e186_1, e186_2, e186_4, e186_7, e186_10, e186_12, e186_13, e186_14, e186_84, e186_85, e186_88, e186_91, e186_92, e186_93, e186_96, e186_99, e186_100, e186_101, e186_104, e186_106, e186_109, e186_110, e186_111, e186_114, e186_117, e186_118, e186_119, e186_122, e186_123, e186_126, e186_127, e186_128, e186_131, e186_132, e186_135, e186_138, e186_141, e186_142, e186_145, e186_146, e186_147, e186_148, e186_151, e186_152, e186_155, e186_158, e186_159, e186_160, e186_163, e186_164, e186_167, e186_170, e186_171, e186_172, e186_175, e186_176, e186_179, e186_182, e186_183, e186_184, e186_187, e186_190, e186_191, e186_192, e186_195, e186_198, e186_199, e186_200, e186_203, e186_204, e186_207, e186_210, e186_211, e186_212, e186_215, e186_218, e186_219, e186_220, e186_223, e186_224, e186_225, e186_228, e186_229, e186_232, en_5, en_17, en_25, en_35, en_36, en_107, en_108, en_110, en_129, en_133, en_162, en_177, en_178, i_1, i_2, f_1_0, C_within, eb, K10_19 2 (by decide), Nat.reduceEqDiff, Nat.reduceLT, Nat.reduceLeDiff, Nat.reduceAdd, Nat.reduceMul, one_n0, not_false_eq_true, if_true, if_false, D_get st_2, R.1.1 2 (by omega), lvH_Hq, Option.bind_some, psh_i]
    rfl
  | 3, _ =>
    refine ⟨g, ?_, T0, rfl, rfl, frC_r⟩
    rw [e0, D0_186]
    simp only [e186_0, e186_1, e186_2, e186_4, e186_7, e186_10, e186_12, e186_13, e186_14, e186_84, e186_85, e186_88, e186_91, e186_92, e186_93, e186_96, e186_99, e186_100, e186_101, e186_104, e186_106, e186_109, e186_110, e186_111, e186_114, e186_117, e186_118, e186_119, e186_122, e186_123, e186_126, e186_127, e186_128, e186_131, e186_132, e186_135, e186_138, e186_141, e186_142, e186_145, e186_146, e186_147, e186_148, e186_151, e186_152, e186_155, e186_158, e186_159, e186_160, e186_163, e186_164, e186_167, e186_170, e186_171, e186_172, e186_175, e186_176, e186_179, e186_182, e186_183, e186_184, e186_187, e186_190, e186_191, e186_192, e186_195, e186_198, e186_199, e186_200, e186_203, e186_204, e186_207, e186_210, e186_211, e186_212, e186_215, e186_218, e186_219, e186_220, e186_223, e186_224, e186_225, e186_228, e186_229, e186_232, en_5, en_17, en_25, en_35, en_36, en_107, en_108, en_110, en_129, en_133, en_162, en_177, en_178, i_1, i_2, f_1_0, C_within, eb, K10_19 3 (by decide), Nat.reduceEqDiff, Nat.reduceLT, Nat.reduceLeDiff, Nat.reduceAdd, Nat.reduceMul, one_n0, not_false_eq_true, if_true, if_false, D_get st_2, R.1.1 3 (by omega), lvH_Hq, Option.bind_some, psh_i]
    rfl
  | 4, _ =>
    refine ⟨g, ?_, T0, rfl, rfl, frC_r⟩
    rw [e0, D0_186]
    simp only [e186_0, e186_1, e186_2, e186_4, e186_7, e186_10, e186_12, e186_13, e186_14, e186_84, e186_85, e186_88, e186_91, e186_92, e186_93, e186_96, e186_99, e186_100, e186_101, e186_104, e186_106, e186_109, e186_110, e186_111, e186_114, e186_117, e186_118, e186_119, e186_122, e186_123, e186_126, e186_127, e186_128, e186_131, e186_132, e186_135, e186_138, e186_141, e186_142, e186_145, e186_146, e186_147, e186_148, e186_151, e186_152, e186_155, e186_158, e186_159, e186_160, e186_163, e186_164, e186_167, e186_170, e186_171, e186_172, e186_175, e186_176, e186_179, e186_182, e186_183, e186_184, e186_187, e186_190, e186_191, e186_192, e186_195, e186_198, e186_199, e186_200, e186_203, e186_204, e186_207, e186_210, e186_211, e186_212, e186_215, e186_218, e186_219, e186_220, e186_223, e186_224, e186_225, e186_228, e186_229, e186_232, en_5, en_17, en_25, en_35, en_36, en_107, en_108, en_110, en_129, en_133, en_162, en_177, en_178, i_1, i_2, f_1_0, C_within, eb, K10_19 4 (by decide), Nat.reduceEqDiff, Nat.reduceLT, Nat.reduceLeDiff, Nat.reduceAdd, Nat.reduceMul, one_n0, not_false_eq_true, if_true, if_false, D_get st_2, R.1.1 4 (by omega), lvH_Hq, Option.bind_some, psh_i]
    rfl
  | 5, _ =>
    refine ⟨g, ?_, T0, rfl, rfl, frC_r⟩
    rw [e0, D0_186]
    simp only [e186_0, e186_1, e186_2, e186_4, e186_7, e186_10, e186_12, e186_13, e186_14, e186_84, e186_85, e186_88, e186_91, e186_92, e186_93, e186_96, e186_99, e186_100, e186_101, e186_104, e186_106, e186_109, e186_110, e186_111, e186_114, e186_117, e186_118, e186_119, e186_122, e186_123, e186_126, e186_127, e186_128, e186_131, e186_132, e186_135, e186_138, e186_141, e186_142, e186_145, e186_146, e186_147, e186_148, e186_151, e186_152, e186_155, e186_158, e186_159, e186_160, e186_163, e186_164, e186_167, e186_170, e186_171, e186_172, e186_175, e186_176, e186_179, e186_182, e186_183, e186_184, e186_187, e186_190, e186_191, e186_192, e186_195, e186_198, e186_199, e186_200, e186_203, e186_204, e186_207, e186_210, e186_211, e186_212, e186_215, e186_218, e186_219, e186_220, e186_223, e186_224, e186_225, e186_228, e186_229, e186_232, en_5, en_17, en_25, en_35, en_36, en_107, en_108, en_110, en_129, en_133, en_162, en_177, en_178, i_1, i_2, f_1_0, C_within, eb, K10_19 5 (by decide), Nat.reduceEqDiff, Nat.reduceLT, Nat.reduceLeDiff, Nat.reduceAdd, Nat.reduceMul, one_n0, not_false_eq_true, if_true, if_false, D_processes st_2, hp, lvH_Hq, Option.bind_some, psh_i]
    rfl
  | 6, _ =>
    refine ⟨g, ?_, T0, rfl, rfl, frC_r⟩
    rw [e0, D0_186]
    simp only [e186_0, e186_1, e186_2, e186_4, e186_7, e186_10, e186_12, e186_13, e186_14, e186_84, e186_85, e186_88, e186_91, e186_92, e186_93, e186_96, e186_99, e186_100, e186_101, e186_104, e186_106, e186_109, e186_110, e186_111, e186_114, e186_117, e186_118, e186_119, e186_122, e186_123, e186_126, e186_127, e186_128, e186_131, e186_132, e186_135, e186_138, e186_141, e186_142, e186_145, e186_146, e186_147, e186_148, e186_151, e186_152, e186_155, e186_158, e186_159, e186_160, e186_163, e186_164, e186_167, e186_170, e186_171, e186_172, e186_175, e186_176, e186_179, e186_182, e186_183, e186_184, e186_187, e186_190, e186_191, e186_192, e186_195, e186_198, e186_199, e186_200, e186_203, e186_204, e186_207, e186_210, e186_211, e186_212, e186_215, e186_218, e186_219, e186_220, e186_223, e186_224, e186_225, e186_228, e186_229, e186_232, en_5, en_17, en_25, en_35, en_36, en_107, en_108, en_110, en_129, en_133, en_162, en_177, en_178, i_1, i_2, f_1_0, C_within, eb, K10_19 6 (by decide), Nat.reduceEqDiff, Nat.reduceLT, Nat.reduceLeDiff, Nat.reduceAdd, Nat.reduceMul, one_n0, not_false_eq_true, if_true, if_false, D_cells st_2, hcl, lvH_Hq, Option.bind_some, psh_i]
    rfl
  | 7, _ =>
    refine ⟨g, ?_, T0, rfl, rfl, frC_r⟩
    rw [e0, D0_186]
    simp only [e186_0, e186_1, e186_2, e186_4, e186_7, e186_10, e186_12, e186_13, e186_14, e186_84, e186_85, e186_88, e186_91, e186_92, e186_93, e186_96, e186_99, e186_100, e186_101, e186_104, e186_106, e186_109, e186_110, e186_111, e186_114, e186_117, e186_118, e186_119, e186_122, e186_123, e186_126, e186_127, e186_128, e186_131, e186_132, e186_135, e186_138, e186_141, e186_142, e186_145, e186_146, e186_147, e186_148, e186_151, e186_152, e186_155, e186_158, e186_159, e186_160, e186_163, e186_164, e186_167, e186_170, e186_171, e186_172, e186_175, e186_176, e186_179, e186_182, e186_183, e186_184, e186_187, e186_190, e186_191, e186_192, e186_195, e186_198, e186_199, e186_200, e186_203, e186_204, e186_207, e186_210, e186_211, e186_212, e186_215, e186_218, e186_219, e186_220, e186_223, e186_224, e186_225, e186_228, e186_229, e186_232, en_5, en_17, en_25, en_35, en_36, en_107, en_108, en_110, en_129, en_133, en_162, en_177, en_178, i_1, i_2, f_1_0, C_within, eb, K10_19 7 (by decide), Nat.reduceEqDiff, Nat.reduceLT, Nat.reduceLeDiff, Nat.reduceAdd, Nat.reduceMul, one_n0, not_false_eq_true, if_true, if_false, D_get st_2, h6c, lvH_Hq, Option.bind_some, psh_i]
    rfl
  | 8, _ =>
    have e8 : cntU c 5 = cntU m (wN b + n) := by
      rw [cntU_c (c := c) (m := m) 5 (fun p hp => cP0 R hp)]
      have := cntU_0 (m := m) (a := wN b + n) (5 - (wN b + n)) (fun p h1 h2 => by
        by_cases z : m.P p 0 = -1
        · exact z
        · have := uw_np I0 (show p < 5 by omega) z
          omega)
      rwa [show wN b + n + (5 - (wN b + n)) = 5 by omega] at this
    refine ⟨g, ?_, T0, rfl, rfl, frC_r⟩
    rw [e0, D0_186]
    simp only [e186_0, e186_1, e186_2, e186_4, e186_7, e186_10, e186_12, e186_13, e186_14, e186_84, e186_85, e186_88, e186_91, e186_92, e186_93, e186_96, e186_99, e186_100, e186_101, e186_104, e186_106, e186_109, e186_110, e186_111, e186_114, e186_117, e186_118, e186_119, e186_122, e186_123, e186_126, e186_127, e186_128, e186_131, e186_132, e186_135, e186_138, e186_141, e186_142, e186_145, e186_146, e186_147, e186_148, e186_151, e186_152, e186_155, e186_158, e186_159, e186_160, e186_163, e186_164, e186_167, e186_170, e186_171, e186_172, e186_175, e186_176, e186_179, e186_182, e186_183, e186_184, e186_187, e186_190, e186_191, e186_192, e186_195, e186_198, e186_199, e186_200, e186_203, e186_204, e186_207, e186_210, e186_211, e186_212, e186_215, e186_218, e186_219, e186_220, e186_223, e186_224, e186_225, e186_228, e186_229, e186_232, en_5, en_17, en_25, en_35, en_36, en_107, en_108, en_110, en_129, en_133, en_162, en_177, en_178, i_1, i_2, f_1_0, C_within, eb, K10_19 8 (by decide), Nat.reduceEqDiff, Nat.reduceLT, Nat.reduceLeDiff, Nat.reduceAdd, Nat.reduceMul, one_n0, not_false_eq_true, if_true, if_false, D_underWay st_2, e8, lvH_Hq, Option.bind_some, psh_i]
    rfl
  | 9, _ =>
    refine ⟨g, ?_, T0, rfl, rfl, frC_r⟩
    rw [e0, D0_186]
    simp only [e186_0, e186_1, e186_2, e186_4, e186_7, e186_10, e186_12, e186_13, e186_14, e186_84, e186_85, e186_88, e186_91, e186_92, e186_93, e186_96, e186_99, e186_100, e186_101, e186_104, e186_106, e186_109, e186_110, e186_111, e186_114, e186_117, e186_118, e186_119, e186_122, e186_123, e186_126, e186_127, e186_128, e186_131, e186_132, e186_135, e186_138, e186_141, e186_142, e186_145, e186_146, e186_147, e186_148, e186_151, e186_152, e186_155, e186_158, e186_159, e186_160, e186_163, e186_164, e186_167, e186_170, e186_171, e186_172, e186_175, e186_176, e186_179, e186_182, e186_183, e186_184, e186_187, e186_190, e186_191, e186_192, e186_195, e186_198, e186_199, e186_200, e186_203, e186_204, e186_207, e186_210, e186_211, e186_212, e186_215, e186_218, e186_219, e186_220, e186_223, e186_224, e186_225, e186_228, e186_229, e186_232, en_5, en_17, en_25, en_35, en_36, en_107, en_108, en_110, en_129, en_133, en_162, en_177, en_178, i_1, i_2, f_1_0, C_within, eb, K10_19 9 (by decide), Nat.reduceEqDiff, Nat.reduceLT, Nat.reduceLeDiff, Nat.reduceAdd, Nat.reduceMul, one_n0, not_false_eq_true, if_true, if_false, D_get st_2, R.1.1 5 (by omega), lvH_Hq, Option.bind_some, psh_i]
    rfl
  | 10, _ =>
    have ho : hOk (hyC c) N := by
      rw [hy]
      exact HI.1
    obtain ⟨g', hg, hf⟩ := D_atomic (L := L) (g := g) (s := c) st_2 (by decide) (by decide) t3 h6c hN ho
    rw [hy] at hg
    refine ⟨g', ?_, KT_fr T0 (fun i hi => hf i hi.2.2.1 hi.2.2.2.1), hf 7 (by decide) (by decide), hf 53 (by decide) (by decide), fun i hi => hf i (by omega) (by omega)⟩
    rw [D0_186]
    simp only [e186_0, e186_1, e186_2, e186_4, e186_7, e186_10, e186_12, e186_13, e186_14, e186_84, e186_85, e186_88, e186_91, e186_92, e186_93, e186_96, e186_99, e186_100, e186_101, e186_104, e186_106, e186_109, e186_110, e186_111, e186_114, e186_117, e186_118, e186_119, e186_122, e186_123, e186_126, e186_127, e186_128, e186_131, e186_132, e186_135, e186_138, e186_141, e186_142, e186_145, e186_146, e186_147, e186_148, e186_151, e186_152, e186_155, e186_158, e186_159, e186_160, e186_163, e186_164, e186_167, e186_170, e186_171, e186_172, e186_175, e186_176, e186_179, e186_182, e186_183, e186_184, e186_187, e186_190, e186_191, e186_192, e186_195, e186_198, e186_199, e186_200, e186_203, e186_204, e186_207, e186_210, e186_211, e186_212, e186_215, e186_218, e186_219, e186_220, e186_223, e186_224, e186_225, e186_228, e186_229, e186_232, en_5, en_17, en_25, en_35, en_36, en_107, en_108, en_110, en_129, en_133, en_162, en_177, en_178, i_1, i_2, i_4, f_1_0, f_1_1, C_within, eb, K10_19 10 (by decide), Nat.reduceEqDiff, Nat.reduceLT, Nat.reduceLeDiff, Nat.reduceAdd, Nat.reduceMul, one_n0, not_false_eq_true, if_true, if_false, hg, lvH_Hq, Option.bind_some, psh_i]
    rcases Classical.em (hAt (hyM m) N) with w | w
    · have e : tlM m N (wN b + n) (clN b r n) k sd bk ba bv 10 = nI 1 := b2c_t w
      rw [e, b2c_t w]
      simp only [one_n0, if_false]
    · have e : tlM m N (wN b + n) (clN b r n) k sd bk ba bv 10 = nI 0 := b2c_f w
      rw [e, b2c_f w, if_pos (show nI 0 = 0 from rfl)]
  | 11, _ =>
    have e : fstF (fun r => hJd c r ∧ ¬ hSf (hyC c) N r) 0 N = fstF (rdP m N 0) 0 N := fst_c N 0 (fun i _ _ => by
      rw [hJ i, hy]
      exact Iff.rfl)
    refine ⟨g, ?_, T0, rfl, rfl, frC_r⟩
    rw [e0, D0_186]
    simp only [e186_0, e186_1, e186_2, e186_4, e186_7, e186_10, e186_12, e186_13, e186_14, e186_84, e186_85, e186_88, e186_91, e186_92, e186_93, e186_96, e186_99, e186_100, e186_101, e186_104, e186_106, e186_109, e186_110, e186_111, e186_114, e186_117, e186_118, e186_119, e186_122, e186_123, e186_126, e186_127, e186_128, e186_131, e186_132, e186_135, e186_138, e186_141, e186_142, e186_145, e186_146, e186_147, e186_148, e186_151, e186_152, e186_155, e186_158, e186_159, e186_160, e186_163, e186_164, e186_167, e186_170, e186_171, e186_172, e186_175, e186_176, e186_179, e186_182, e186_183, e186_184, e186_187, e186_190, e186_191, e186_192, e186_195, e186_198, e186_199, e186_200, e186_203, e186_204, e186_207, e186_210, e186_211, e186_212, e186_215, e186_218, e186_219, e186_220, e186_223, e186_224, e186_225, e186_228, e186_229, e186_232, en_5, en_17, en_25, en_35, en_36, en_107, en_108, en_110, en_129, en_133, en_162, en_177, en_178, i_1, i_2, i_4, f_1_0, f_1_1, C_within, eb, K10_19 11 (by decide), Nat.reduceEqDiff, Nat.reduceLT, Nat.reduceLeDiff, Nat.reduceAdd, Nat.reduceMul, one_n0, not_false_eq_true, if_true, if_false, D_fNotSafe st_2 h6c hN, e, lvH_Hq, Option.bind_some, psh_i]
    rfl
  | 12, _ =>
    have e : fstF (fun r => hJd c r ∧ hGs (hyC c) N r = -1) 0 N = fstF (rdP m N 1) 0 N := fst_c N 0 (fun i _ _ => by
      rw [hJ i, hy]
      exact Iff.rfl)
    refine ⟨g, ?_, T0, rfl, rfl, frC_r⟩
    rw [e0, D0_186]
    simp only [e186_0, e186_1, e186_2, e186_4, e186_7, e186_10, e186_12, e186_13, e186_14, e186_84, e186_85, e186_88, e186_91, e186_92, e186_93, e186_96, e186_99, e186_100, e186_101, e186_104, e186_106, e186_109, e186_110, e186_111, e186_114, e186_117, e186_118, e186_119, e186_122, e186_123, e186_126, e186_127, e186_128, e186_131, e186_132, e186_135, e186_138, e186_141, e186_142, e186_145, e186_146, e186_147, e186_148, e186_151, e186_152, e186_155, e186_158, e186_159, e186_160, e186_163, e186_164, e186_167, e186_170, e186_171, e186_172, e186_175, e186_176, e186_179, e186_182, e186_183, e186_184, e186_187, e186_190, e186_191, e186_192, e186_195, e186_198, e186_199, e186_200, e186_203, e186_204, e186_207, e186_210, e186_211, e186_212, e186_215, e186_218, e186_219, e186_220, e186_223, e186_224, e186_225, e186_228, e186_229, e186_232, en_5, en_17, en_25, en_35, en_36, en_107, en_108, en_110, en_129, en_133, en_162, en_177, en_178, i_1, i_2, i_4, f_1_0, f_1_1, C_within, eb, K10_19 12 (by decide), Nat.reduceEqDiff, Nat.reduceLT, Nat.reduceLeDiff, Nat.reduceAdd, Nat.reduceMul, one_n0, not_false_eq_true, if_true, if_false, D_fNotRegular st_2 h6c hN, e, lvH_Hq, Option.bind_some, psh_i]
    rfl
  | 13, _ =>
    have e : fstF (fun r => hJd c r ∧ hGb c N r) 0 N = fstF (rdP m N 2) 0 N := fst_c N 0 (fun i _ _ => by
      show hJd c i ∧ (¬ hGs (hyC c) N i = -1 ∧ ∃ q, q < N ∧ (hJd c q ∧ hAh (hyC c) q i ∧ hGs (hyC c) N i < hLs (hyC c) N q)) ↔ hJm m i ∧ (¬ hGs (hyM m) N i = -1 ∧ ∃ q, q < N ∧ (hJm m q ∧ hAh (hyM m) q i ∧ hGs (hyM m) N i < hLs (hyM m) N q))
      rw [hJ i, hy]
      constructor
      · rintro ⟨z1, z2, q, z3, z4, z5⟩
        exact ⟨z1, z2, q, z3, (hJ q).mp z4, z5⟩
      · rintro ⟨z1, z2, q, z3, z4, z5⟩
        exact ⟨z1, z2, q, z3, (hJ q).mpr z4, z5⟩)
    refine ⟨g, ?_, T0, rfl, rfl, frC_r⟩
    rw [e0, D0_186]
    simp only [e186_0, e186_1, e186_2, e186_4, e186_7, e186_10, e186_12, e186_13, e186_14, e186_84, e186_85, e186_88, e186_91, e186_92, e186_93, e186_96, e186_99, e186_100, e186_101, e186_104, e186_106, e186_109, e186_110, e186_111, e186_114, e186_117, e186_118, e186_119, e186_122, e186_123, e186_126, e186_127, e186_128, e186_131, e186_132, e186_135, e186_138, e186_141, e186_142, e186_145, e186_146, e186_147, e186_148, e186_151, e186_152, e186_155, e186_158, e186_159, e186_160, e186_163, e186_164, e186_167, e186_170, e186_171, e186_172, e186_175, e186_176, e186_179, e186_182, e186_183, e186_184, e186_187, e186_190, e186_191, e186_192, e186_195, e186_198, e186_199, e186_200, e186_203, e186_204, e186_207, e186_210, e186_211, e186_212, e186_215, e186_218, e186_219, e186_220, e186_223, e186_224, e186_225, e186_228, e186_229, e186_232, en_5, en_17, en_25, en_35, en_36, en_107, en_108, en_110, en_129, en_133, en_162, en_177, en_178, i_1, i_2, i_4, f_1_0, f_1_1, C_within, eb, K10_19 13 (by decide), Nat.reduceEqDiff, Nat.reduceLT, Nat.reduceLeDiff, Nat.reduceAdd, Nat.reduceMul, one_n0, not_false_eq_true, if_true, if_false, D_fGoingBack st_2 h6c hN, e, lvH_Hq, Option.bind_some, psh_i]
    rfl
  | 14, _ =>
    have e : (if nI 3 ≤ c.H 0 then gst c (clN b r n) else nI 0) = gst m (clN b r n) := by
      rw [gst_c (c := c) (m := m) (clN b r n) (fun i hi => R.1.2.1 i (by omega))]
      by_cases z : b < 3
      · rw [if_neg (by
          rw [shc.1]
          exact nI_ge z (by omega)), gst_0 (m := m) (clN b r n) (fun i hi => by
          have := hC i (by omega)
          unfold bnd at this
          rwa [if_pos z] at this)]
      · rw [if_pos (by
          rw [shc.1]
          exact (nI_leI (by omega) (by have := ok.1; omega)).mpr (by omega))]
    refine ⟨g, ?_, T0, rfl, rfl, frC_r⟩
    rw [e0, D0_186]
    simp only [e186_0, e186_1, e186_2, e186_4, e186_7, e186_10, e186_12, e186_13, e186_14, e186_84, e186_85, e186_88, e186_91, e186_92, e186_93, e186_96, e186_99, e186_100, e186_101, e186_104, e186_106, e186_109, e186_110, e186_111, e186_114, e186_117, e186_118, e186_119, e186_122, e186_123, e186_126, e186_127, e186_128, e186_131, e186_132, e186_135, e186_138, e186_141, e186_142, e186_145, e186_146, e186_147, e186_148, e186_151, e186_152, e186_155, e186_158, e186_159, e186_160, e186_163, e186_164, e186_167, e186_170, e186_171, e186_172, e186_175, e186_176, e186_179, e186_182, e186_183, e186_184, e186_187, e186_190, e186_191, e186_192, e186_195, e186_198, e186_199, e186_200, e186_203, e186_204, e186_207, e186_210, e186_211, e186_212, e186_215, e186_218, e186_219, e186_220, e186_223, e186_224, e186_225, e186_228, e186_229, e186_232, en_5, en_17, en_25, en_35, en_36, en_107, en_108, en_110, en_129, en_133, en_162, en_177, en_178, i_1, i_2, f_1_0, C_within, eb, K10_19 14 (by decide), Nat.reduceEqDiff, Nat.reduceLT, Nat.reduceLeDiff, Nat.reduceAdd, Nat.reduceMul, one_n0, not_false_eq_true, if_true, if_false, D_greatestStamp st_2 hcl hc9, e, lvH_Hq, Option.bind_some, psh_i]
    rfl
  | 15, _ =>
    refine ⟨g, ?_, T0, rfl, rfl, frC_r⟩
    rw [D0_186]
    simp only [e186_0, e186_1, e186_2, e186_4, e186_7, e186_10, e186_12, e186_13, e186_14, e186_84, e186_85, e186_88, e186_91, e186_92, e186_93, e186_96, e186_99, e186_100, e186_101, e186_104, e186_106, e186_109, e186_110, e186_111, e186_114, e186_117, e186_118, e186_119, e186_122, e186_123, e186_126, e186_127, e186_128, e186_131, e186_132, e186_135, e186_138, e186_141, e186_142, e186_145, e186_146, e186_147, e186_148, e186_151, e186_152, e186_155, e186_158, e186_159, e186_160, e186_163, e186_164, e186_167, e186_170, e186_171, e186_172, e186_175, e186_176, e186_179, e186_182, e186_183, e186_184, e186_187, e186_190, e186_191, e186_192, e186_195, e186_198, e186_199, e186_200, e186_203, e186_204, e186_207, e186_210, e186_211, e186_212, e186_215, e186_218, e186_219, e186_220, e186_223, e186_224, e186_225, e186_228, e186_229, e186_232, en_5, en_17, en_25, en_35, en_36, en_107, en_108, en_110, en_129, en_133, en_162, en_177, en_178, i_1, i_83, f_1_5, C_within, eb, K10_19 15 (by decide), Nat.reduceEqDiff, Nat.reduceLT, Nat.reduceLeDiff, Nat.reduceAdd, Nat.reduceMul, one_n0, not_false_eq_true, if_true, if_false, D_bkSize, t5, lvH_Hq, Option.bind_some, psh_i]
    rfl
  | 16, _ =>
    have e : fstF (wrgC c ba bv) 0 bk = fstF (wrgP m ba bv) 0 bk := fst_c bk 0 (fun i _ _ => by
      unfold wrgC wrgP
      rw [R.1.1 6 (by omega), (R.1.2.2 (ix (ba i))).2.2.1])
    have d := L_fWrong (L := L) (g := g) (c := c) h6c hN hb t5 (fun i hi => ⟨(t6 i hi).1, (t6 i hi).2, hbk i hi⟩) t3 bk 0 (by omega)
    rw [e] at d
    have d2 : Den 36 [.ref 83, .ref 2] (HP L g) = some (some (fstF (wrgP m ba bv) 0 bk), HP L g) := by
      rw [D0_36]
      simp only [e36_0, e36_1, e36_3, e36_4, e36_7, e36_10, e36_11, e36_13, e36_16, e36_17, e36_20, e36_21, e36_22, e36_23, e36_25, e36_28, e36_31, e36_32, e36_33, e36_36, e36_37, e36_38, e36_39, e36_42, e36_43, e36_46, e36_47, e36_48, e36_51, e36_52, e36_53, e36_56, e36_59, e36_60, en_25, en_29]
      exact d
    refine ⟨g, ?_, T0, rfl, rfl, frC_r⟩
    rw [D0_186]
    simp only [e186_0, e186_1, e186_2, e186_4, e186_7, e186_10, e186_12, e186_13, e186_14, e186_84, e186_85, e186_88, e186_91, e186_92, e186_93, e186_96, e186_99, e186_100, e186_101, e186_104, e186_106, e186_109, e186_110, e186_111, e186_114, e186_117, e186_118, e186_119, e186_122, e186_123, e186_126, e186_127, e186_128, e186_131, e186_132, e186_135, e186_138, e186_141, e186_142, e186_145, e186_146, e186_147, e186_148, e186_151, e186_152, e186_155, e186_158, e186_159, e186_160, e186_163, e186_164, e186_167, e186_170, e186_171, e186_172, e186_175, e186_176, e186_179, e186_182, e186_183, e186_184, e186_187, e186_190, e186_191, e186_192, e186_195, e186_198, e186_199, e186_200, e186_203, e186_204, e186_207, e186_210, e186_211, e186_212, e186_215, e186_218, e186_219, e186_220, e186_223, e186_224, e186_225, e186_228, e186_229, e186_232, en_5, en_17, en_25, en_35, en_36, en_107, en_108, en_110, en_129, en_133, en_162, en_177, en_178, i_1, i_83, f_1_0, f_1_5, C_within, eb, K10_19 16 (by decide), Nat.reduceEqDiff, Nat.reduceLT, Nat.reduceLeDiff, Nat.reduceAdd, Nat.reduceMul, one_n0, not_false_eq_true, if_true, if_false, d2, lvH_Hq, Option.bind_some, psh_i]
    rfl
  | 17, _ =>
    refine ⟨g, ?_, T0, rfl, rfl, frC_r⟩
    rw [D0_186]
    simp only [e186_0, e186_1, e186_2, e186_4, e186_7, e186_10, e186_12, e186_13, e186_14, e186_84, e186_85, e186_88, e186_91, e186_92, e186_93, e186_96, e186_99, e186_100, e186_101, e186_104, e186_106, e186_109, e186_110, e186_111, e186_114, e186_117, e186_118, e186_119, e186_122, e186_123, e186_126, e186_127, e186_128, e186_131, e186_132, e186_135, e186_138, e186_141, e186_142, e186_145, e186_146, e186_147, e186_148, e186_151, e186_152, e186_155, e186_158, e186_159, e186_160, e186_163, e186_164, e186_167, e186_170, e186_171, e186_172, e186_175, e186_176, e186_179, e186_182, e186_183, e186_184, e186_187, e186_190, e186_191, e186_192, e186_195, e186_198, e186_199, e186_200, e186_203, e186_204, e186_207, e186_210, e186_211, e186_212, e186_215, e186_218, e186_219, e186_220, e186_223, e186_224, e186_225, e186_228, e186_229, e186_232, en_5, en_17, en_25, en_35, en_36, en_107, en_108, en_110, en_129, en_133, en_162, en_177, en_178, i_1, i_58, f_1_3, C_within, eb, K10_19 17 (by decide), Nat.reduceEqDiff, Nat.reduceLT, Nat.reduceLeDiff, Nat.reduceAdd, Nat.reduceMul, one_n0, not_false_eq_true, if_true, if_false, D_ddSize, o2, lvH_Hq, Option.bind_some, psh_i]
    rfl
  | 18, _ =>
    refine ⟨g, ?_, T0, rfl, rfl, frC_r⟩
    rw [D0_186]
    simp only [e186_0, e186_1, e186_2, e186_4, e186_7, e186_10, e186_12, e186_13, e186_14, e186_84, e186_85, e186_88, e186_91, e186_92, e186_93, e186_96, e186_99, e186_100, e186_101, e186_104, e186_106, e186_109, e186_110, e186_111, e186_114, e186_117, e186_118, e186_119, e186_122, e186_123, e186_126, e186_127, e186_128, e186_131, e186_132, e186_135, e186_138, e186_141, e186_142, e186_145, e186_146, e186_147, e186_148, e186_151, e186_152, e186_155, e186_158, e186_159, e186_160, e186_163, e186_164, e186_167, e186_170, e186_171, e186_172, e186_175, e186_176, e186_179, e186_182, e186_183, e186_184, e186_187, e186_190, e186_191, e186_192, e186_195, e186_198, e186_199, e186_200, e186_203, e186_204, e186_207, e186_210, e186_211, e186_212, e186_215, e186_218, e186_219, e186_220, e186_223, e186_224, e186_225, e186_228, e186_229, e186_232, en_5, en_17, en_25, en_35, en_36, en_107, en_108, en_110, en_129, en_133, en_162, en_177, en_178, i_1, C_within, eb, K10_19 18 (by decide), Nat.reduceEqDiff, Nat.reduceLT, Nat.reduceLeDiff, Nat.reduceAdd, Nat.reduceMul, one_n0, not_false_eq_true, if_true, if_false, t1, Hq_G, lvH_Hq, Option.bind_some, psh_i]
    rfl
  | j + 19, h => omega
end RR
