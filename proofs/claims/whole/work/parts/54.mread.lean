/-! THE MODEL: what a read may get -/
theorem ddl_len {f : Nat → Int32} : ∀ k, (ddl f k).length ≤ k
  | 0 => Nat.le_refl _
  | k + 1 => by
    have ih := ddl_len (f := f) k
    rw [ddl]
    split
    · omega
    · rw [List.length_append, List.length_singleton]
      omega
theorem ddl_mem {f : Nat → Int32} {x : Int32} : ∀ k, x ∈ ddl f k ↔ ∃ i, i < k ∧ f i = x
  | 0 => by simp [ddl]
  | k + 1 => by
    have ih := ddl_mem (f := f) (x := x) k
    rw [ddl]
    split
    · rename_i h
      rw [ih]
      constructor
      · rintro ⟨i, h1, h2⟩
        exact ⟨i, by omega, h2⟩
      · rintro ⟨i, h1, h2⟩
        by_cases e : i = k
        · subst e
          rw [← ih, ← h2]
          exact h
        · exact ⟨i, by omega, h2⟩
    · rw [List.mem_append, ih, List.mem_singleton]
      constructor
      · rintro (⟨i, h1, h2⟩ | h)
        · exact ⟨i, by omega, h2⟩
        · exact ⟨k, by omega, h.symm⟩
      · rintro ⟨i, h1, h2⟩
        by_cases e : i = k
        · subst e
          exact Or.inr h2.symm
        · exact Or.inl ⟨i, by omega, h2⟩
theorem fnd_app {l : List Int32} {x w : Int32} (hl : l.length < 100) : fnd (l ++ [x]) w = if nI l.length = w then x else fnd l w := by
  unfold fnd
  by_cases hw : w < 0
  · rw [if_pos hw, if_pos hw, if_neg (fun e => by rw [← e] at hw; exact nI_pos (by omega) hw)]
  · rw [if_neg hw, if_neg hw]
    obtain ⟨j, hj, rfl⟩ := nI_of hw
    rw [ix_nI hj]
    by_cases e : l.length = j
    · subst e
      rw [if_pos rfl, List.getElem?_append_right (Nat.le_refl _), Nat.sub_self]
      rfl
    · rw [if_neg (fun z => e ((nI_eq (by omega) hj).mp z))]
      by_cases h2 : j < l.length
      · rw [List.getElem?_append_left h2]
      · rw [List.getElem?_eq_none (by rw [List.length_append, List.length_singleton]; omega), List.getElem?_eq_none (by omega)]
theorem m1_nI (j : Nat) : nI j - 1 + nI 1 = nI (j + 1) - 1 := by
  rw [nI_pred]
  exact Int32.sub_add_cancel (nI j) 1
theorem m1_neg : nI 0 - 1 < 0 := by decide
theorem m1_pos {j : Nat} (h0 : 0 < j) (h : j < 1000) : ¬ nI j - 1 < 0 := by
  obtain ⟨k, rfl⟩ : ∃ k, j = k + 1 := ⟨j - 1, by omega⟩
  rw [nI_pred]
  exact nI_pos (by omega)
theorem m1_le {i j : Nat} (hi : i < 1000) (hj : j < 1000) : (nI i - 1 ≤ nI j - 1) = (i ≤ j) := by
  apply propext
  rw [Int32.le_iff_toInt_le]
  have e : ∀ k : Nat, k < 1000 → (nI k - 1).toInt = (k : Int) - 1 := by
    intro k hk
    rw [fb_subI] <;> rw [nI_toInt (by omega)] <;> simp <;> omega
  rw [e i hi, e j hj]
  omega
section MM
variable {L : Nat} {g : Nat → Nat → Int32} {s : Sx} {f : Nat → Int32}
/-- its k-th number, HELD first -/
theorem m1_idx {a k : Nat} (hk : 0 < k) : nI (17 + 18 * a + 8) + (nI k - 1) = nI (17 + 18 * a + (7 + k)) := by
  obtain ⟨j, rfl⟩ : ∃ j, k = j + 1 := ⟨k - 1, by omega⟩
  rw [nI_pred, nI_add, show 17 + 18 * a + 8 + j = 17 + 18 * a + (7 + (j + 1)) by omega]
theorem L_regIn {a o : Nat} (ha : a < 5) (h10 : o ≤ 10) {w n x y : Int32} {k : Nat} (hk : k ≤ o) : ∀ d j, j + d = k → Rr 91 58 [.ref 86, .int (nI a), .int w, .int n, .int x, .int (nI k - 1), .int y, .int (b2 (¬ ∃ i, i < j ∧ mNum s a i = y)), .int (nI j - 1)] [] (HM L g s f) = Rr 91 118 [.ref 86, .int (nI a), .int w, .int n, .int x, .int (nI k - 1), .int y, .int (b2 (¬ ∃ i, i < k ∧ mNum s a i = y)), .int (nI k - 1)] [] (HM L g s f)
  | 0, j, h => by
    have : j = k := by omega
    subst this
    rw [e91_58]
    simp only [e91_60, e91_62, Int32.le_refl, if_true]
  | d + 1, j, h => by
    have h1 : (nI k - 1 ≤ nI j - 1) = False := by rw [m1_le (by omega) (by omega)]; exact eq_false (by omega)
    have ih := L_regIn ha h10 (w := w) (n := n) (x := x) (y := y) hk d (j + 1) (by omega)
    generalize Rr 91 118 _ _ _ = T at ih ⊢
    have ex : (∃ i, i < j + 1 ∧ mNum s a i = y) ↔ (∃ i, i < j ∧ mNum s a i = y) ∨ mNum s a j = y := by
      constructor
      · rintro ⟨i, h1, h2⟩
        by_cases e : i = j
        · subst e; exact Or.inr h2
        · exact Or.inl ⟨i, by omega, h2⟩
      · rintro (⟨i, h1, h2⟩ | h2)
        · exact ⟨i, by omega, h2⟩
        · exact ⟨j, by omega, h2⟩
    rw [e91_58]
    simp only [e91_60, e91_62, h1, if_false, e91_65, e91_67]
    by_cases c1 : ∃ i, i < j ∧ mNum s a i = y
    · have b1 : b2 (¬ ∃ i, i < j ∧ mNum s a i = y) = nI 0 := if_neg (fun z => z c1)
      have b2' : b2 (¬ ∃ i, i < j + 1 ∧ mNum s a i = y) = nI 0 := if_neg (fun z => z (ex.mpr (Or.inl c1)))
      rw [b2'] at ih
      rw [b1]
      simp only [K00, if_true, e91_109, e91_110, e91_112, e91_115, m1_nI]
      exact ih
    · have b1 : b2 (¬ ∃ i, i < j ∧ mNum s a i = y) = nI 1 := if_pos c1
      rw [b1]
      simp only [one_n0, if_false, e91_70, e91_72]
      have step : ∀ z : Int32, mNum s a j = z → Rr 91 100 [.ref 86, .int (nI a), .int w, .int n, .int x, .int (nI k - 1), .int y, .int (nI 1), .int (nI j - 1)] [.int z] (HM L g s f) = T := by
        intro z hz
        simp only [e91_100, e91_102]
        by_cases c2 : mNum s a j = y
        · have b2' : b2 (¬ ∃ i, i < j + 1 ∧ mNum s a i = y) = nI 0 := if_neg (fun z => z (ex.mpr (Or.inr c2)))
          rw [b2'] at ih
          rw [if_pos (hz.symm.trans c2)]
          simp only [e91_109, e91_110, e91_112, e91_115, m1_nI]
          exact ih
        · have b2' : b2 (¬ ∃ i, i < j + 1 ∧ mNum s a i = y) = nI 1 := if_pos (fun z => (ex.mp z).elim c1 c2)
          rw [b2'] at ih
          rw [if_neg (fun z2 => c2 (hz.trans z2))]
          simp only [e91_105, e91_106, e91_110, e91_112, e91_115, m1_nI]
          exact ih
      by_cases c3 : j = 0
      · subst c3
        rw [if_neg (Int32.not_le.mpr m1_neg)]
        simp only [e91_75, e91_76, e91_77, e91_79, e91_82, en_42, i_86, M_its ha, lvH_Hq, Option.bind_some, psh_i, psh_n, Hq_G, Hq_setG, upf_same, upf_upf, Nat.reduceLT, Nat.reduceLeDiff, Nat.reduceAdd, Nat.reduceMul]
        exact step _ rfl
      · rw [if_pos (Int32.not_lt.mp (m1_pos (show 0 < j by omega) (by omega)))]
        have k1 := in_P ha (show 7 + j < 18 by omega)
        simp only [e91_0, e91_1, e91_2, e91_3, e91_5, e91_6, e91_8, e91_10, e91_11, e91_12, e91_14, e91_17, e91_20, e91_22, e91_25, e91_26, e91_27, e91_29, e91_32, e91_35, e91_36, e91_39, e91_40, e91_41, e91_43, e91_46, e91_48, e91_49, e91_50, e91_52, e91_53, e91_55, e91_56, e91_60, e91_62, e91_65, e91_67, e91_70, e91_72, e91_75, e91_76, e91_77, e91_79, e91_82, e91_85, e91_86, e91_89, e91_90, e91_91, e91_93, e91_96, e91_98, e91_99, e91_102, e91_105, e91_106, e91_109, e91_110, e91_112, e91_115, e91_120, e91_123, e91_124, e91_125, e91_128, e91_130, e91_133, e91_135, e91_137, e91_138, e91_140, e91_143, e91_144, e91_147, e91_148, e91_149, e91_150, e91_153, e91_156, e91_157, e91_160, e91_161, e91_164, e91_166, en_11, en_42, i_86, f_86_0, a_87, n_87, M_of, m1_idx (show 0 < j by omega), k1, rM_P ha (show 7 + j < 18 by omega), not_false_eq_true, lvH_Hq, Option.bind_some, psh_i, psh_n, Hq_G, Hq_setG, upf_same, upf_upf]
        exact step _ (if_neg c3)
theorem L_regOut {a o : Nat} (ha : a < 5) (h10 : o ≤ 10) (ho : s.P a 7 = nI o) {w : Int32} : ∀ d i (v6 v7 v8 : Value), i + d = o + 1 → Rr 91 8 [.ref 86, .int (nI a), .int w, .int (nI (ddl (mNum s a) i).length), .int (fnd (ddl (mNum s a) i) w), .int (nI i - 1), v6, v7, v8] [] (HM L g s f) = some (some (mReg s a w), HM L g s f)
  | 0, i, v6, v7, v8, h => by
    have : i = o + 1 := by omega
    subst this
    rw [e91_8]
    simp only [e91_10, e91_11, e91_12, e91_14, e91_17, en_42, i_86, M_its ha, ho, lvH_Hq, Option.bind_some, psh_i, psh_n, Hq_G, Hq_setG, upf_same, upf_upf, Nat.reduceLT, Nat.reduceLeDiff, Nat.reduceAdd, Nat.reduceMul, nI_pred, Int32.le_refl, if_true, e91_156, e91_157]
    unfold mReg mDd
    rw [ho, ix_nI (by omega)]
    by_cases c : w < 0
    · rw [if_neg (Int32.not_le.mpr c), if_pos c]
      simp only [e91_160, e91_161, e91_166]
    · rw [if_pos (Int32.not_lt.mp c), if_neg c]
      simp only [e91_164, e91_166]
  | d + 1, i, v6, v7, v8, h => by
    have ih := fun v6 v7 v8 => L_regOut ha h10 ho (w := w) d (i + 1) v6 v7 v8 (by omega)
    have h1 : ¬ nI o ≤ nI i - 1 := by
      rw [← nI_pred o, m1_le (by omega) (by omega)]
      omega
    have hlen := ddl_len (f := mNum s a) i
    generalize mReg s a w = T at ih ⊢
    have body : ∀ z : Int32, mNum s a i = z → Rr 91 50 [.ref 86, .int (nI a), .int w, .int (nI (ddl (mNum s a) i).length), .int (fnd (ddl (mNum s a) i) w), .int (nI i - 1), v6, v7, v8] [.int z] (HM L g s f) = some (some T, HM L g s f) := by
      intro z hz
      have m1 : ((-1 : Int32)) = nI 0 - 1 := by decide
      have L1 := L_regIn (L := L) (g := g) (s := s) (f := f) ha h10 (w := w) (n := nI (ddl (mNum s a) i).length) (x := fnd (ddl (mNum s a) i) w) (y := z) (k := i) (by omega) i 0 (by omega)
      have b0 : ∀ n : Nat, n = 0 → b2 (¬ ∃ i, i < n ∧ mNum s a i = z) = nI 1 := fun n hn => if_pos (fun ⟨i, hi, _⟩ => by omega)
      have b0 := b0 0 rfl
      rw [b0] at L1
      simp only [e91_0, e91_1, e91_2, e91_3, e91_5, e91_6, e91_10, e91_11, e91_12, e91_14, e91_20, e91_22, e91_25, e91_26, e91_27, e91_29, e91_32, e91_35, e91_36, e91_39, e91_40, e91_41, e91_43, e91_46, e91_48, e91_49, e91_50, e91_52, e91_53, e91_55, e91_56, e91_60, e91_62, e91_65, e91_67, e91_70, e91_72, e91_75, e91_76, e91_77, e91_79, e91_82, e91_85, e91_86, e91_89, e91_90, e91_91, e91_93, e91_96, e91_98, e91_99, e91_100, e91_102, e91_105, e91_106, e91_109, e91_110, e91_112, e91_115, e91_120, e91_123, e91_124, e91_125, e91_128, e91_130, e91_133, e91_135, e91_137, e91_138, e91_140, e91_143, e91_144, e91_147, e91_148, e91_149, e91_150, e91_153, e91_157, e91_161, en_11, en_42]
      rw [m1, L1]
      have hmem : (∃ j, j < i ∧ mNum s a j = z) ↔ mNum s a i ∈ ddl (mNum s a) i := by
        rw [ddl_mem, hz]
      by_cases c : ∃ j, j < i ∧ mNum s a j = z
      · have b1 : b2 (¬ ∃ j, j < i ∧ mNum s a j = z) = nI 0 := if_neg (fun z => z c)
        rw [ddl, if_pos (hmem.mp c)] at ih
        rw [b1]
        simp only [e91_118, e91_120, K00, if_true, e91_133, e91_135, e91_137, e91_138, e91_140, e91_147, e91_148, e91_149, e91_150, e91_153, nI_add, Nat.add_zero, m1_nI]
        exact ih _ _ _
      · have b1 : b2 (¬ ∃ j, j < i ∧ mNum s a j = z) = nI 1 := if_pos c
        rw [ddl, if_neg (fun z => c (hmem.mpr z)), List.length_append, List.length_singleton, fnd_app (by omega), hz] at ih
        rw [b1]
        simp only [e91_118, e91_120, one_n0, if_false, e91_123, e91_124, e91_125, ite_not]
        by_cases c2 : nI (ddl (mNum s a) i).length = w
        · rw [if_pos c2]
          rw [if_pos c2] at ih
          simp only [e91_128, e91_130, e91_135, e91_137, e91_138, e91_140, one_n0, if_false, e91_143, e91_144, e91_148, e91_149, e91_150, e91_153, nI_add, m1_nI]
          exact ih _ _ _
        · rw [if_neg c2]
          rw [if_neg c2] at ih
          simp only [e91_133, e91_135, e91_137, e91_138, e91_140, one_n0, if_false, e91_143, e91_144, e91_148, e91_149, e91_150, e91_153, nI_add, m1_nI]
          exact ih _ _ _
    rw [e91_8]
    simp only [e91_10, e91_11, e91_12, e91_14, e91_17, en_42, i_86, M_its ha, ho, lvH_Hq, Option.bind_some, psh_i, psh_n, Hq_G, Hq_setG, upf_same, upf_upf, Nat.reduceLT, Nat.reduceLeDiff, Nat.reduceAdd, Nat.reduceMul, h1, if_false, e91_20, e91_22]
    by_cases c3 : i = 0
    · subst c3
      rw [if_neg (Int32.not_le.mpr m1_neg)]
      simp only [e91_25, e91_26, e91_27, e91_29, e91_32, en_42, i_86, M_its ha, lvH_Hq, Option.bind_some, psh_i, psh_n, Hq_G, Hq_setG, upf_same, upf_upf, Nat.reduceLT, Nat.reduceLeDiff, Nat.reduceAdd, Nat.reduceMul]
      exact body _ rfl
    · rw [if_pos (Int32.not_lt.mp (m1_pos (show 0 < i by omega) (by omega)))]
      have k1 := in_P ha (show 7 + i < 18 by omega)
      simp only [e91_0, e91_1, e91_2, e91_3, e91_5, e91_6, e91_10, e91_11, e91_12, e91_14, e91_20, e91_25, e91_26, e91_27, e91_29, e91_32, e91_35, e91_36, e91_39, e91_40, e91_41, e91_43, e91_46, e91_48, e91_49, e91_52, e91_53, e91_55, e91_56, e91_60, e91_62, e91_65, e91_67, e91_70, e91_72, e91_75, e91_76, e91_77, e91_79, e91_82, e91_85, e91_86, e91_89, e91_90, e91_91, e91_93, e91_96, e91_98, e91_99, e91_102, e91_105, e91_106, e91_109, e91_110, e91_112, e91_115, e91_120, e91_123, e91_124, e91_125, e91_128, e91_130, e91_133, e91_135, e91_137, e91_138, e91_140, e91_143, e91_144, e91_147, e91_148, e91_149, e91_150, e91_153, e91_157, e91_160, e91_161, e91_164, e91_166, en_11, en_42, i_86, f_86_0, a_87, n_87, M_of, m1_idx (show 0 < i by omega), k1, rM_P ha (show 7 + i < 18 by omega), not_false_eq_true, lvH_Hq, Option.bind_some, psh_i, psh_n, Hq_G, Hq_setG, upf_same, upf_upf]
      exact body _ (if_neg c3)
theorem M_regular {a o : Nat} (ha : a < 5) (h10 : o ≤ 10) (ho : s.P a 7 = nI o) {w : Int32} : Den 91 [.ref 86, .int (nI a), .int w] (HM L g s f) = some (some (mReg s a w), HM L g s f) := by
  have h := L_regOut (L := L) (g := g) (s := s) (f := f) ha h10 ho (w := w) (o + 1) 0 (.retAddr 0) (.retAddr 0) (.retAddr 0) (by omega)
  have m1 : ((-1 : Int32)) = nI 0 - 1 := by decide
  have e : fnd (ddl (mNum s a) 0) w = -1 := by
    unfold fnd ddl
    split <;> rfl
  rw [e] at h
  rw [D0_91, ← h]
  simp only [e91_0, e91_1, e91_2, e91_3, e91_5, e91_6]
  rw [← m1]
  rfl
theorem M_choices {a o : Nat} (ha : a < 5) (h10 : o ≤ 10) (ho : s.P a 7 = nI o) : Den 143 [.ref 86, .int (nI a)] (HM L g s f) = some (some (mChs s a), HM L g s f) := by
  rw [D0_143]
  simp only [e143_0, e143_1, e143_2, e143_5, e143_8, e143_9, e143_10, e143_11, e143_12, e143_15, e143_18, e143_19, e143_20, e143_23, e143_26, e143_27, e143_28, e143_30, e143_33, e143_36, e143_37, e143_38, e143_39, e143_42, e143_43, e143_44, e143_45, e143_48, e143_49, e143_50, e143_51, e143_54, e143_57, e143_58, e143_61, e143_62, e143_63, e143_64, e143_67, e143_68, e143_71, e143_72, e143_75, e143_76, e143_77, en_42, en_86, en_87, en_91, en_125, i_86, f_86_0, a_87, n_87, in_H, rM_H, M_isUnderWay ha, M_isBegun ha, M_isWriting ha, M_its ha, M_regular ha h10 ho, not_false_eq_true, Nat.reduceLT, Nat.reduceLeDiff, Nat.reduceAdd, Nat.reduceMul, lvH_Hq, Option.bind_some, psh_i, psh_n, Hq_G, Hq_setG, upf_same, upf_upf, b2_0, b2_1, b2_01, one_01, zero_01, le32, Classical.not_not, ite_not]
  unfold mChs
  simp only [if_o, ite_not]
  by_cases c1 : s.P a 0 = -1
  · rw [if_pos c1, if_pos c1]
  · rw [if_neg c1, if_neg c1]
    by_cases c2 : mBg s a
    · rw [if_pos c2, if_pos c2]
      by_cases c3 : mWt s a
      · rw [if_pos c3, if_pos c3]
      · rw [if_neg c3, if_neg c3]
        by_cases c4 : s.P a 7 = 0
        · rw [if_pos c4, if_pos c4]
        · rw [if_neg c4, if_neg c4]
          by_cases c5 : s.H 2 = nI 1
          · rw [if_pos c5, if_pos c5]
          · rw [if_neg c5, if_neg c5]
            split <;> rfl
    · rw [if_neg c2, if_neg c2]
theorem M_gotten {a o c : Nat} (ha : a < 5) (hA : Ix 7 (s.P a 0)) (h10 : o ≤ 10) (ho : s.P a 7 = nI o) (hc : c < 10) (hC : mCel s a = nI c) {x : Int32} : Den 157 [.ref 86, .int (nI a), .int x] (HM L g s f) = some (some (mGot s a x), HM L g s f) := by
  have k1 := in_C hc
  rw [D0_157]
  simp only [e157_0, e157_1, e157_4, e157_5, e157_6, e157_7, e157_10, e157_11, e157_14, e157_16, e157_17, e157_18, e157_21, e157_22, e157_23, e157_24, e157_25, e157_26, e157_28, e157_31, e157_34, e157_35, e157_36, e157_38, e157_41, e157_44, e157_45, e157_48, e157_49, e157_50, e157_51, e157_54, e157_55, e157_56, e157_57, e157_60, e157_63, e157_64, en_42, en_91, en_142, i_86, f_86_0, a_87, n_87, in_H, rM_H, M_cellOf ha hA, hC, nI_add, k1, rM_C hc, M_its ha, M_regular ha h10 ho, not_false_eq_true, Nat.reduceLT, Nat.reduceLeDiff, Nat.reduceAdd, Nat.reduceMul, lvH_Hq, Option.bind_some, psh_i, psh_n, Hq_G, Hq_setG, upf_same, upf_upf, b2_0, b2_1, b2_01, one_01, zero_01, le32, Classical.not_not, ite_not]
  unfold mGot
  rw [hC, ix_nI (by omega)]
  by_cases c1 : s.H 2 = nI 2
  · rw [if_pos c1, if_pos c1]
  · rw [if_neg c1, if_neg c1]
    by_cases c2 : s.P a 7 = 0
    · rw [if_pos c2, if_pos c2]
    · rw [if_neg c2, if_neg c2]
      split <;> rfl
theorem M_beginAccess {a c N : Nat} (ha : a < 5) (h5 : N ≤ 5) (hp : prcs s = nI N) (hu : ∀ q, q < 5 → ¬ s.P q 0 = -1 → Ix 7 (s.P q 0)) (hua : ¬ s.P a 0 = -1) (hc : c < 10) (hC : mCel s a = nI c) (hO : ∀ j, j < N → ∀ q, q < 5 → ∃ o, o < 10 ∧ (itr (mBgB a (mCel s a) (mWt s a)) j (((s.sP a 2 (nI 1)).sP a 6 (s.C (ix (mCel s a)))).sP a 7 (nI 0))).P q 7 = nI o) : Den 170 [.ref 86, .int (nI a)] (HM L g s f) = some (none, HM L g (mBgA s a N) f) := by
  have k1 := in_C hc
  have p2 := in_P ha (show 2 < 18 by omega)
  have p6 := in_P ha (show 6 < 18 by omega)
  have p7 := in_P ha (show 7 < 18 by omega)
  have e : ix (mCel s a) = c := by rw [hC, ix_nI (by omega)]
  unfold mBgA
  rw [e] at hO ⊢
  have hb := L_mBg (L := L) (g := g) (f := f) (s := ((s.sP a 2 (nI 1)).sP a 6 (s.C c)).sP a 7 (nI 0)) ha h5 (c := mCel s a) (wr := mWt s a) hp (fun q hq => by rw [sP_nk (by decide), sP_nk (by decide), sP_nk (by decide)]; exact hu q hq) (by rw [sP_nk (by decide), sP_nk (by decide), sP_nk (by decide)]; exact hua) hO N 0 (.retAddr 0) (by omega)
  rw [D0_170, ← hb]
  simp only [e170_0, e170_1, e170_2, e170_5, e170_6, e170_7, e170_8, e170_11, e170_12, e170_13, e170_16, e170_17, e170_18, e170_19, e170_22, e170_23, e170_24, e170_25, e170_28, e170_29, e170_30, e170_32, e170_35, e170_36, e170_39, e170_41, e170_42, e170_43, e170_44, e170_45, e170_46, e170_49, e170_50, e170_51, e170_53, e170_56, e170_57, e170_58, e170_59, e170_63, e170_64, e170_70, e170_72, e170_76, e170_77, e170_79, e170_85, e170_86, e170_88, e170_91, e170_95, e170_96, e170_99, e170_100, e170_102, e170_107, e170_111, e170_112, e170_114, e170_120, e170_121, e170_123, e170_124, e170_125, e170_128, e170_131, e170_136, e170_140, e170_141, e170_143, e170_149, e170_150, e170_151, e170_152, e170_154, e170_157, e170_160, e170_163, en_11, en_46, en_87, en_89, en_125, en_142, en_160, i_86, f_86_0, a_87, b_87, n_87, M_cellOf ha (hu a ha hua), hC, M_isWriting ha, M_of, nI_add, k1, p2, p6, p7, rM_C hc, wM_P ha (show 2 < 18 by omega), wM_P ha (show 6 < 18 by omega), wM_P ha (show 7 < 18 by omega), sP_C, not_false_eq_true, lvH_Hq, Option.bind_some, psh_i, psh_n, Hq_G, Hq_setG, upf_same, upf_upf, Nat.reduceLT, Nat.reduceLeDiff, Nat.reduceAdd, Nat.reduceMul, itr]
end MM
