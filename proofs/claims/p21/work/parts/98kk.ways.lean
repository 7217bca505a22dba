/-! THE LAW'S waysAre -/
section WA
variable {L b po bs r n t N k sd a : Nat} {m : Sx} {hs im : Nat → Sx} {kp : Nat → Bool} {is : Nat → Nat} {x y : Int32} {g : Nat → Nat → Int32}
theorem T8 (G : GV b po bs r n t N m) : Op L 186 [.int (nI 8)] (mkH b po bs r n t N m k hs kp im is sd) (nI (cnE m N)) (mkH b po bs r n t N m k hs kp im is sd) := by
  have h := O_told (L := L) (k := k) (hs := hs) (kp := kp) (im := im) (is := is) (sd := sd) G (show 8 < 19 by decide)
  have e : tlM m N (wN b + n) (clN b r n) k sd 0 (fun _ => 0) (fun _ => 0) 8 = nI (cnE m N) := by
    rw [cnE_P G.1]
    exact cntU_P _
  rwa [e] at h
theorem T9 (G : GV b po bs r n t N m) : Op L 186 [.int (nI 9)] (mkH b po bs r n t N m k hs kp im is sd) (nI t) (mkH b po bs r n t N m k hs kp im is sd) := by
  have h := O_told (L := L) (k := k) (hs := hs) (kp := kp) (im := im) (is := is) (sd := sd) G (show 9 < 19 by decide)
  have e : tlM m N (wN b + n) (clN b r n) k sd 0 (fun _ => 0) (fun _ => 0) 9 = nI t := G.1.2
  rwa [e] at h
theorem T10 (G : GV b po bs r n t N m) : Op L 186 [.int (nI 10)] (mkH b po bs r n t N m k hs kp im is sd) (b2c (hAt (hyM m) N)) (mkH b po bs r n t N m k hs kp im is sd) := O_told (L := L) G (show 10 < 19 by decide)
theorem T17 (G : GV b po bs r n t N m) : Op L 186 [.int (nI 17)] (mkH b po bs r n t N m k hs kp im is sd) (nI k) (mkH b po bs r n t N m k hs kp im is sd) := O_told (L := L) G (show 17 < 19 by decide)
theorem lst_uw (G : GV b po bs r n t N m) : lst m = 5 ↔ cnE m N = 0 := by
  rw [cnE_P G.1]
  constructor
  · intro h
    rcases lst_of (m := m) with ⟨-, z⟩ | ⟨l1, -⟩
    · have hnp := np_le G.1.1.1
      exact sumN_z _ (fun p hp => if_pos (z p (by omega)))
    · omega
  · intro h
    have key : ∀ d, cnP m d = 0 → ∀ q, q < d → m.P q 0 = -1 := by
      intro d
      induction d with
      | zero => intro _ q hq; omega
      | succ d ih =>
        intro hd q hq
        have e : cnP m (d + 1) = cnP m d + (if m.P d 0 = -1 then 0 else 1) := rfl
        rw [e] at hd
        by_cases c : m.P d 0 = -1
        · by_cases z : q = d
          · rw [z]
            exact c
          · exact ih (by omega) q (by omega)
        · rw [if_neg c] at hd
          omega
    refine lst_5 (fun q hq => ?_)
    by_cases z : m.P q 0 = -1
    · exact z
    · exact key _ h q (uw_np G.1 hq z)
theorem O_waysAre (H : HI (mkH b po bs r n t N m k hs kp im is sd)) : ∃ s', Op L 8 [] (mkH b po bs r n t N m k hs kp im is sd) (nI 1) s' := by
  have G := H.1
  have hk := H.2.1
  have ht := tm_le G.1.1
  have hN := G.1.1.2.2.2.1
  obtain ⟨WX', WJ', hc1, hl⟩ := wAll_ok G
  obtain ⟨-, -, -, w4, w5, w6, w7, w8⟩ := WX'
  obtain ⟨-, j2, -⟩ := WJ'
  have O0 := O_ways (L := L) (k := k) (hs := hs) (kp := kp) (im := im) (is := is) (sd := sd) G (show 0 < 4 by decide)
  have O1 := O_ways (L := L) (k := k) (hs := hs) (kp := kp) (im := im) (is := is) (sd := sd) G (show 1 < 4 by decide)
  have O2 := O_ways (L := L) (k := k) (hs := hs) (kp := kp) (im := im) (is := is) (sd := sd) G (show 2 < 4 by decide)
  have O3 := O_ways (L := L) (k := k) (hs := hs) (kp := kp) (im := im) (is := is) (sd := sd) G (show 3 < 4 by decide)
  have OB0 := O_bad0 (L := L) (k := k) (hs := hs) (kp := kp) (im := im) (is := is) (sd := sd) G
  have OB := O_bad (L := L) (k := k) (hs := hs) (kp := kp) (im := im) (is := is) (sd := sd) (t' := t + wFd (wAll (wN b + n) N m)) G hk
  have x0 : ∀ X, wAns X 0 = nI (wCt X) := fun _ => rfl
  have x1 : ∀ X, wAns X 1 = nI (wBd X) := fun _ => rfl
  have x2 : ∀ X, wAns X 2 = wFb X := fun _ => rfl
  have x3 : ∀ X, wAns X 3 = nI (wLg X) := fun _ => rfl
  rw [x0] at O0
  rw [x1] at O1
  rw [x2] at O2
  rw [x3] at O3
  generalize wAll (wN b + n) N m = X at *
  have hlu : cnE m N = 0 → wCt X = 1 ∧ wLg X = 0 := fun z => hl ((lst_uw G).mpr z)
  have hu7 := cnE_le (m := m) N
  have c51 : ¬ nI (wCt X) < nI 1 := nI_nlt hc1 (by omega)
  have c58 : ¬ nI 500 < nI (wCt X) := nI_nlt w5 (by omega)
  have c62 : ¬ nI (wBd X) < 0 := nI_pos (by omega)
  have c67 : ¬ nI (wCt X) < nI (wBd X) := nI_nlt w4 (by omega)
  have cu : (nI (cnE m N) = 0) = (cnE m N = 0) := propext (nI_eq (b := 0) (by omega) (by omega))
  have n10 : ¬ nI 1 = 0 := by decide
  -- the part up to bad()
  have P1 : ∀ g, KK (mkH b po bs r n t N m k hs kp im is sd) g → ∃ g', Den 8 [.ref 1] (HP L g) = Rr 8 125 [.ref 1, .int (nI (wCt X)), .int (nI (wBd X)), .int (wFb X), .int (nI (wLg X)), .int (nI (cnE m N)), .int (nI t), .int (nI k), .retAddr 0, .retAddr 0] [] (HP L g') ∧ KK (mkH b po bs r n t N m k hs kp im is sd) g' ∧ frC g g' := by
    intro g w
    obtain ⟨g0, d0, w0, F0⟩ := O0 g w
    obtain ⟨g1, d1, w1, F1⟩ := O1 g0 w0
    obtain ⟨g2, d2, w2, F2⟩ := O2 g1 w1
    obtain ⟨g3, d3, w3, F3⟩ := O3 g2 w2
    obtain ⟨g4, d4, w4', F4⟩ := T8 (L := L) G g3 w3
    obtain ⟨g5, d5, w5', F5⟩ := T9 (L := L) G g4 w4'
    obtain ⟨g6, d6, w6', F6⟩ := T17 (L := L) G g5 w5'
    obtain ⟨g7, d7, w7', F7⟩ := T9 (L := L) G g6 w6'
    refine ⟨g7, ?_, w7', frC_t F0 (frC_t F1 (frC_t F2 (frC_t F3 (frC_t F4 (frC_t F5 (frC_t F6 F7))))))⟩
    have A : Den 8 [.ref 1] (HP L g) = Rr 8 71 [.ref 1, .int (nI (wCt X)), .int (nI (wBd X)), .int (wFb X), .int (nI (wLg X)), .int (nI (cnE m N)), .int (nI t), .int (nI k), .retAddr 0, .retAddr 0] [.int (nI (wBd X))] (HP L g6) := by
      rw [D0_8]
      simp only [e8_0, e8_1, e8_2, e8_5, e8_6, e8_7, e8_8, e8_11, e8_12, e8_13, e8_14, e8_17, e8_18, e8_19, e8_20, e8_23, e8_25, e8_26, e8_28, e8_31, e8_33, e8_34, e8_36, e8_39, e8_41, e8_42, e8_44, e8_47, e8_49, e8_50, e8_51, e8_54, e8_55, e8_58, e8_61, e8_62, e8_65, e8_66, e8_67, e8_70, en_186, en_187, i_1, d0, d1, d2, d3, d4, d5, d6, c51, c58, c62, c67, if_false, lvH_Hq, Option.bind_some, psh_i, psh_n, Hq_G, Hq_setG, upf_same, upf_upf]
    have B : Rr 8 71 [.ref 1, .int (nI (wCt X)), .int (nI (wBd X)), .int (wFb X), .int (nI (wLg X)), .int (nI (cnE m N)), .int (nI t), .int (nI k), .retAddr 0, .retAddr 0] [.int (nI (wBd X))] (HP L g6) = Rr 8 97 [.ref 1, .int (nI (wCt X)), .int (nI (wBd X)), .int (wFb X), .int (nI (wLg X)), .int (nI (cnE m N)), .int (nI t), .int (nI k), .retAddr 0, .retAddr 0] [] (HP L g6) := by
      by_cases zb : wBd X = 0
      · have ef := w7 zb
        have z1 : ¬ nI (wCt X) ≤ -1 := m1_lt (by omega)
        rw [zb, ef]
        simp only [e8_71, e8_74, e8_75, e8_78, e8_79, e8_80, e8_81, e8_84, e8_85, e8_88, e8_89, e8_92, e8_93, e8_94, zz, z1, not_true_eq_false, if_false]
      · obtain ⟨-, -, -, -, j, hj, ef⟩ := j2 (by omega)
        have z1 : ¬ nI (wCt X) ≤ nI j := nI_ge hj (by omega)
        have z2 : ¬ nI (wBd X) = 0 := fun z => zb ((nI_eq (b := 0) (by omega) (by omega)).mp z)
        have z3 : ¬ nI j = -1 := nI_nm1 (by omega)
        rw [ef]
        simp only [e8_71, e8_74, e8_75, e8_78, e8_79, e8_80, e8_81, e8_84, e8_85, e8_88, e8_89, e8_92, e8_93, e8_94, z1, z2, z3, not_true_eq_false, not_false_eq_true, if_true, if_false]
    have C : Rr 8 108 [.ref 1, .int (nI (wCt X)), .int (nI (wBd X)), .int (wFb X), .int (nI (wLg X)), .int (nI (cnE m N)), .int (nI t), .int (nI k), .retAddr 0, .retAddr 0] [] (HP L g7) = Rr 8 125 [.ref 1, .int (nI (wCt X)), .int (nI (wBd X)), .int (wFb X), .int (nI (wLg X)), .int (nI (cnE m N)), .int (nI t), .int (nI k), .retAddr 0, .retAddr 0] [] (HP L g7) := by
      by_cases zu : cnE m N = 0
      · obtain ⟨e1, e2⟩ := hlu zu
        rw [zu, e1, e2]
        simp only [e8_108, e8_110, e8_113, e8_114, e8_115, e8_118, e8_120, zz, not_true_eq_false, if_true, if_false]
      · have z : ¬ nI (cnE m N) = 0 := fun z => zu (cu.mp z)
        simp only [e8_108, e8_110, z, not_false_eq_true, if_true]
    rw [A, B]
    simp only [e8_97, e8_98, e8_100, e8_103, e8_105, en_186, i_1, d7, not_true_eq_false, if_false, lvH_Hq, Option.bind_some, psh_i, psh_n, Hq_G, Hq_setG, upf_same, upf_upf]
    exact C
  by_cases zb : wBd X = 0
  · refine ⟨mkH b po bs r n t N m k hs kp im is sd, fun g w => ?_⟩
    obtain ⟨g1, e1, w1, F1⟩ := P1 g w
    obtain ⟨g2, d2, w2, F2⟩ := OB0 zb g1 w1
    obtain ⟨g3, d3, w3, F3⟩ := T9 (L := L) G g2 w2
    obtain ⟨g4, d4, w4, F4⟩ := T17 (L := L) G g3 w3
    refine ⟨g4, ?_, w4, frC_t F1 (frC_t F2 (frC_t F3 F4))⟩
    rw [e1, zb]
    simp only [e8_125, e8_126, e8_129, e8_131, e8_132, e8_135, e8_137, e8_139, e8_142, e8_143, e8_145, e8_148, e8_150, e8_153, e8_154, e8_156, e8_159, e8_161, e8_164, e8_165, e8_168, e8_169, en_185, en_186, i_1, d2, d3, d4, zz, one_01, not_true_eq_false, if_false, lvH_Hq, Option.bind_some, psh_i, psh_n, Hq_G, Hq_setG, upf_same, upf_upf]
  · obtain ⟨G1, hl1, hna, hfd, j, hj, ef⟩ := j2 (by omega)
    have hfd40 := (w8 (by omega)).2.1
    have u1 : cnE (wFs X) N = 0 := (lst_uw G1).mp hl1
    have ek : (if nI k ≤ nI 15 then nI k else nI 15) = nI (kup k - 1) := by
      unfold kup
      by_cases c : k ≤ 15
      · rw [if_pos ((nI_leI (by omega) (by omega)).mpr c), if_pos (by omega), Nat.add_sub_cancel]
      · rw [if_neg (nI_ge (by omega) (by omega))]
        split
        · omega
        · rfl
    refine ⟨mkH b po bs r n t N m (kup k - 1) (fun i => hcons m hs (i + 1)) kp im is sd, fun g w => ?_⟩
    obtain ⟨g1, e1, w1, F1⟩ := P1 g w
    obtain ⟨g2, d2, w2, F2⟩ := OB zb g1 w1
    obtain ⟨g3, d3, w3, F3⟩ := T9 (L := L) G1 g2 w2
    obtain ⟨g4, d4, w4, F4⟩ := T8 (L := L) G1 g3 w3
    rw [u1] at d4
    obtain ⟨g5, d5, w5, F5⟩ := T10 (L := L) G1 g4 w4
    rw [b2c_f hna] at d5
    have hk1 : 1 ≤ kup k := by
      unfold kup
      split <;> omega
    obtain ⟨g6, d6, w6, F6⟩ := O_undo (L := L) (b' := b) (po' := po) (bs' := bs) (r' := r) (n' := n) (t' := t) (N' := N) kup_16 (Nat.le_refl 1) hk1 g5 w5
    have w6 : KK (mkH b po bs r n t N m (kup k - 1) (fun i => hcons m hs (i + 1)) kp im is sd) g6 := w6
    obtain ⟨g7, d7, w7, F7⟩ := T9 (L := L) G g6 w6
    obtain ⟨g8, d8, w8, F8⟩ := T8 (L := L) G g7 w7
    refine ⟨g8, ?_, w8, frC_t F1 (frC_t F2 (frC_t F3 (frC_t F4 (frC_t F5 (frC_t F6 (frC_t F7 F8))))))⟩
    have zb' : ¬ nI (wBd X) = 0 := fun z => zb ((nI_eq (b := 0) (by omega) (by omega)).mp z)
    have z1 : ¬ nI (wFd X) < 0 := nI_pos (by omega)
    have z2 : ¬ nI (wLg X) < nI (wFd X) := nI_nlt hfd (by omega)
    rw [e1]
    have A : Rr 8 125 [.ref 1, .int (nI (wCt X)), .int (nI (wBd X)), .int (wFb X), .int (nI (wLg X)), .int (nI (cnE m N)), .int (nI t), .int (nI k), .retAddr 0, .retAddr 0] [] (HP L g1) = Rr 8 233 [.ref 1, .int (nI (wCt X)), .int (nI (wBd X)), .int (wFb X), .int (nI (wLg X)), .int (nI (cnE m N)), .int (nI t), .int (nI k), .int (nI (wFd X)), .int (nI 1)] [.int (nI k), .int (nI (kup k - 1))] (HP L g6) := by
      simp only [e8_125, e8_126, e8_129, e8_131, e8_132, e8_135, e8_137, e8_139, e8_142, e8_143, e8_145, e8_148, e8_150, e8_153, e8_154, e8_156, e8_159, e8_161, e8_164, e8_165, e8_168, e8_169, e8_170, e8_172, e8_175, e8_177, e8_179, e8_182, e8_183, e8_185, e8_188, e8_190, e8_192, e8_193, e8_196, e8_197, e8_199, e8_202, e8_205, e8_206, e8_208, e8_211, e8_214, e8_215, e8_218, e8_219, e8_221, e8_223, e8_226, e8_227, e8_228, e8_231, en_119, en_185, en_186, i_1, d2, d3, d4, d5, d6, zb', z1, z2, nI_add, zz, n10, not_true_eq_false, not_false_eq_true, if_true, if_false, lvH_Hq, Option.bind_some, psh_i, psh_n, Hq_G, Hq_setG, upf_same, upf_upf]
    have B : Rr 8 233 [.ref 1, .int (nI (wCt X)), .int (nI (wBd X)), .int (wFb X), .int (nI (wLg X)), .int (nI (cnE m N)), .int (nI t), .int (nI k), .int (nI (wFd X)), .int (nI 1)] [.int (nI k), .int (nI (kup k - 1))] (HP L g6) = Rr 8 245 [.ref 1, .int (nI (wCt X)), .int (nI (wBd X)), .int (wFb X), .int (nI (wLg X)), .int (nI (cnE m N)), .int (nI t), .int (nI k), .int (nI (wFd X)), .int (nI 1)] [.int (if nI k ≤ nI 15 then nI k else nI 15), .int (nI (kup k - 1))] (HP L g6) := by
      by_cases c : nI k ≤ nI 15
      · simp only [e8_233, e8_235, e8_238, e8_240, e8_243, c, if_true]
      · simp only [e8_233, e8_235, e8_238, e8_240, e8_243, c, if_false]
    rw [A, B, ek]
    simp only [e8_245, e8_248, e8_249, e8_251, e8_254, e8_256, e8_259, e8_260, e8_262, e8_265, e8_267, e8_270, e8_271, e8_274, e8_275, en_186, i_1, d7, d8, one_01, not_true_eq_false, if_false, lvH_Hq, Option.bind_some, psh_i, psh_n, Hq_G, Hq_setG, upf_same, upf_upf]
end WA
