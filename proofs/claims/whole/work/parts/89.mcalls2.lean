/-! THE MODEL'S CALLS: begin, act, cell -/
def acM (m : Sx) (N a w : Nat) : Int32 :=
  if w = 0 then m.A a 0 else if w = 1 then m.A a 1 else if w = 2 then m.A a 4 else if w = 3 then m.A a 2 else if w = 4 then m.A a 3 else if hJm m a then (if w = 5 then b2 (hSf (hyM m) N a) else b2 (¬ hGs (hyM m) N a = -1)) else -1
section RR
variable {L : Nat} {g : Nat → Nat → Int32} {m : Sx} {k : Nat} {hs : Nat → Sx} {kp : Nat → Bool} {im : Nat → Sx} {is : Nat → Nat} {sd bk : Nat} {ba bv : Nat → Int32} {rs : Nat → Sx} {b po bs r n t N : Nat} {f : Nat → Int32} {x y : Int32}
theorem M_beg0 (I : Iv b po bs r n t N m) (hx : ¬ Ix (wN b + n) x) (T : MT m k hs kp im is sd bk ba bv g) : Den 141 [.ref 86, .int x, .int y] (HP L g) = some (some (-1000000001), HP L g) := by
  obtain ⟨rs0, e0, -⟩ := M_now (L := L) T
  obtain ⟨ok, sh, h6, hN, -⟩ := I.1
  have hnp := np_le ok
  rw [e0, D0_141]
  simp only [e141_0, e141_1, e141_2, e141_5, e141_8, e141_10, e141_11, e141_12, e141_13, e141_16, e141_19, e141_20, e141_21, e141_22, e141_23, e141_26, e141_27, e141_28, e141_29, e141_30, e141_31, e141_34, e141_37, e141_39, e141_40, e141_41, e141_42, e141_45, e141_48, e141_50, e141_51, e141_52, e141_55, e141_57, e141_58, e141_60, e141_63, e141_65, e141_66, e141_67, e141_70, e141_71, e141_72, e141_73, e141_76, en_10, en_41, en_47, en_85, en_86, en_121, i_86, M_isProcess (prcs_b sh ok.1) (by omega), b2c_f hx, zz, not_true_eq_false, if_false, lvH_Hq, Option.bind_some, psh_i, psh_n, Hq_G, Hq_setG, upf_same, upf_upf]
theorem beg_pre (I : Iv b po bs r n t N m) : wN b + n ≤ 5 ∧ prcs m = nI (wN b + n) ∧ wrs m = wN b ∧ m.H 3 = nI r ∧ r < 1000 ∧ m.H 6 = nI N ∧ N ≤ 7 := by
  obtain ⟨ok, sh, h6, hN, -⟩ := I.1
  have hnp := np_le ok
  exact ⟨hnp, prcs_b sh ok.1, wrs_b sh.1 ok.1, sh.2.2.2.1, by have := ok.2.2.2.2.1; omega, h6, hN⟩
theorem rw_b (P : Prop) [Decidable P] : b2 P = if P then nI 1 else nI 0 := rfl
theorem M_beg1 (I : Iv b po bs r n t N m) {p : Nat} (hp : p < wN b + n) (hw : p < wN b) (hy : ¬ Ix r y) (T : MT m k hs kp im is sd bk ba bv g) : Den 141 [.ref 86, .int (nI p), .int y] (HP L g) = some (some (-1000000002), HP L g) := by
  obtain ⟨rs0, e0, -⟩ := M_now (L := L) T
  obtain ⟨hnp, q1, q2, q3, q4, q5, q6⟩ := beg_pre I
  have e : b2 (nI 0 ≤ y ∧ y ≤ nI r - nI 1) = nI 0 := if_neg (fun z => hy ((rng_ix q4).mp z))
  have ew : b2 (p < wN b) = nI 1 := if_pos hw
  rw [e0, D0_141]
  simp only [e141_0, e141_1, e141_2, e141_5, e141_8, e141_10, e141_11, e141_12, e141_13, e141_16, e141_19, e141_20, e141_21, e141_22, e141_23, e141_26, e141_27, e141_28, e141_29, e141_30, e141_31, e141_34, e141_37, e141_39, e141_40, e141_41, e141_42, e141_45, e141_48, e141_50, e141_51, e141_52, e141_55, e141_57, e141_58, e141_60, e141_63, e141_65, e141_66, e141_67, e141_70, e141_71, e141_72, e141_73, e141_76, en_10, en_41, en_47, en_85, en_86, en_121, i_86, f_86_0, a_87, n_87, in_H, rM_H, q3, M_isProcess q1 (show wN b + n < 1000 by omega), b2c_t (show Ix (wN b + n) (nI p) from ⟨p, hp, rfl⟩), M_isWriter (show p < 5 by omega), q2, ew, M_in (x := y) (lo := nI 0) (hi := nI r - nI 1) (l := 0) (u := (nI r - nI 1).toInt64) (by decide) rfl, e, zz, one_n0, not_true_eq_false, not_false_eq_true, if_true, if_false, lvH_Hq, Option.bind_some, psh_i, psh_n, Hq_G, Hq_setG, upf_same, upf_upf, Nat.reduceLT, Nat.reduceLeDiff, Nat.reduceAdd, Nat.reduceMul]
theorem L_begin (I : Iv b po bs r n t N m) {p : Nat} (hp : p < wN b + n) (hv : p < wN b → Ix r y) : Den 141 [.ref 86, .int (nI p), .int y] (HM L g m f) = Rr 141 40 [.ref 86, .int (nI p), .int y] [] (HM L g m f) := by
  obtain ⟨hnp, q1, q2, q3, q4, q5, q6⟩ := beg_pre I
  rw [D0_141]
  by_cases hw : p < wN b
  · have e : b2 (nI 0 ≤ y ∧ y ≤ nI r - nI 1) = nI 1 := if_pos ((rng_ix q4).mpr (hv hw))
    have ew : b2 (p < wN b) = nI 1 := if_pos hw
    simp only [e141_0, e141_1, e141_2, e141_5, e141_8, e141_10, e141_11, e141_12, e141_13, e141_16, e141_19, e141_20, e141_21, e141_22, e141_23, e141_26, e141_27, e141_28, e141_29, e141_30, e141_31, e141_34, e141_37, e141_39, e141_41, e141_42, e141_45, e141_48, e141_50, e141_51, e141_52, e141_55, e141_57, e141_58, e141_60, e141_63, e141_65, e141_66, e141_67, e141_70, e141_71, e141_72, e141_73, e141_76, en_10, en_41, en_47, en_85, en_86, en_121, i_86, f_86_0, a_87, n_87, in_H, rM_H, q3, M_isProcess q1 (show wN b + n < 1000 by omega), b2c_t (show Ix (wN b + n) (nI p) from ⟨p, hp, rfl⟩), M_isWriter (show p < 5 by omega), q2, ew, M_in (x := y) (lo := nI 0) (hi := nI r - nI 1) (l := 0) (u := (nI r - nI 1).toInt64) (by decide) rfl, e, zz, one_n0, not_true_eq_false, not_false_eq_true, if_true, if_false, lvH_Hq, Option.bind_some, psh_i, psh_n, Hq_G, Hq_setG, upf_same, upf_upf, Nat.reduceLT, Nat.reduceLeDiff, Nat.reduceAdd, Nat.reduceMul]
  · have ew : b2 (p < wN b) = nI 0 := if_neg hw
    simp only [e141_0, e141_1, e141_2, e141_5, e141_8, e141_10, e141_11, e141_12, e141_13, e141_16, e141_19, e141_20, e141_21, e141_22, e141_23, e141_26, e141_27, e141_28, e141_29, e141_30, e141_31, e141_34, e141_37, e141_39, e141_41, e141_42, e141_45, e141_48, e141_50, e141_51, e141_52, e141_55, e141_57, e141_58, e141_60, e141_63, e141_65, e141_66, e141_67, e141_70, e141_71, e141_72, e141_73, e141_76, en_10, en_41, en_47, en_85, en_86, en_121, i_86, f_86_0, a_87, n_87, in_H, rM_H, q3, M_isProcess q1 (show wN b + n < 1000 by omega), b2c_t (show Ix (wN b + n) (nI p) from ⟨p, hp, rfl⟩), M_isWriter (show p < 5 by omega), q2, ew, zz, one_n0, not_true_eq_false, not_false_eq_true, if_true, if_false, lvH_Hq, Option.bind_some, psh_i, psh_n, Hq_G, Hq_setG, upf_same, upf_upf, Nat.reduceLT, Nat.reduceLeDiff, Nat.reduceAdd, Nat.reduceMul]
theorem M_beg2 (I : Iv b po bs r n t N m) {p : Nat} (hp : p < wN b + n) (hv : p < wN b → Ix r y) (hu : ¬ m.P p 0 = -1) (T : MT m k hs kp im is sd bk ba bv g) : Den 141 [.ref 86, .int (nI p), .int y] (HP L g) = some (some (-1000000003), HP L g) := by
  obtain ⟨rs0, e0, -⟩ := M_now (L := L) T
  obtain ⟨hnp, q1, q2, q3, q4, q5, q6⟩ := beg_pre I
  rw [e0, L_begin I hp hv, e141_40]
  simp only [e141_1, e141_2, e141_5, e141_8, e141_10, e141_11, e141_12, e141_13, e141_16, e141_19, e141_20, e141_21, e141_22, e141_23, e141_26, e141_27, e141_28, e141_29, e141_30, e141_31, e141_34, e141_37, e141_39, e141_41, e141_42, e141_45, e141_48, e141_50, e141_51, e141_52, e141_55, e141_57, e141_58, e141_60, e141_63, e141_65, e141_66, e141_67, e141_70, e141_71, e141_72, e141_73, e141_76, en_10, en_41, en_47, en_85, en_86, en_121, i_86, M_isUnderWay (show p < 5 by omega), b2_0, Classical.not_not, hu, if_false, lvH_Hq, Option.bind_some, psh_i, psh_n, Hq_G, Hq_setG, upf_same, upf_upf]
theorem M_beg3 (I : Iv b po bs r n t 7 m) {p : Nat} (hp : p < wN b + n) (hv : p < wN b → Ix r y) (hu : m.P p 0 = -1) (T : MT m k hs kp im is sd bk ba bv g) : Den 141 [.ref 86, .int (nI p), .int y] (HP L g) = some (some (-1000000004), HP L g) := by
  obtain ⟨rs0, e0, -⟩ := M_now (L := L) T
  obtain ⟨hnp, q1, q2, q3, q4, q5, q6⟩ := beg_pre I
  rw [e0, L_begin I hp hv, e141_40]
  simp only [e141_1, e141_2, e141_5, e141_8, e141_10, e141_11, e141_12, e141_13, e141_16, e141_19, e141_20, e141_21, e141_22, e141_23, e141_26, e141_27, e141_28, e141_29, e141_30, e141_31, e141_34, e141_37, e141_39, e141_41, e141_42, e141_45, e141_48, e141_50, e141_51, e141_52, e141_55, e141_57, e141_58, e141_60, e141_63, e141_65, e141_66, e141_67, e141_70, e141_71, e141_72, e141_73, e141_76, en_10, en_41, en_47, en_85, en_86, en_121, i_86, f_86_0, a_87, n_87, in_H, rM_H, q5, M_isUnderWay (show p < 5 by omega), b2_0, Classical.not_not, hu, not_true_eq_false, not_false_eq_true, if_false, if_true, lvH_Hq, Option.bind_some, psh_i, psh_n, Hq_G, Hq_setG, upf_same, upf_upf, Nat.reduceLT, Nat.reduceLeDiff, Nat.reduceAdd, Nat.reduceMul]
theorem M_beg (I : Iv b po bs r n t N m) {p : Nat} (hp : p < wN b + n) (hv : p < wN b → Ix r y) (hu : m.P p 0 = -1) (hN : N < 7) (hk16 : k ≤ 16) (T : MT m k hs kp im is sd bk ba bv g) :
    ∃ g', Den 141 [.ref 86, .int (nI p), .int y] (HP L g) = some (some (nI N), HP L g') ∧ MT (mBeg m p y) (if k < 16 then k + 1 else 16) (hcons m hs) kp im is sd bk ba bv g' ∧ frM g g' := by
  obtain ⟨rs0, e0, -⟩ := M_now (L := L) T
  obtain ⟨rs1, g1, h1, h2⟩ := M_rem (L := L) hk16 T
  obtain ⟨hnp, q1, q2, q3, q4, q5, q6⟩ := beg_pre I
  have a7 : ¬ nI N = nI 7 := nI_n (by omega) (by omega) (by omega)
  refine ⟨_, ?_, h2 _⟩
  rw [e0] at h1
  rw [e0, L_begin I hp hv, e141_40]
  simp only [e141_1, e141_2, e141_5, e141_8, e141_10, e141_11, e141_12, e141_13, e141_16, e141_19, e141_20, e141_21, e141_22, e141_23, e141_26, e141_27, e141_28, e141_29, e141_30, e141_31, e141_34, e141_37, e141_39, e141_41, e141_42, e141_45, e141_48, e141_50, e141_51, e141_52, e141_55, e141_57, e141_58, e141_60, e141_63, e141_65, e141_66, e141_67, e141_70, e141_71, e141_72, e141_73, e141_76, en_10, en_41, en_47, en_85, en_86, en_121, i_86, f_86_0, a_87, n_87, in_H, rM_H, q5, a7, M_isUnderWay (show p < 5 by omega), b2_0, Classical.not_not, hu, h1, M_beginAct (show p < 5 by omega) (show Ix 7 (m.H 6) from ⟨N, hN, q5⟩), not_true_eq_false, not_false_eq_true, if_false, if_true, lvH_Hq, Option.bind_some, psh_i, psh_n, Hq_G, Hq_setG, upf_same, upf_upf, Nat.reduceLT, Nat.reduceLeDiff, Nat.reduceAdd, Nat.reduceMul]
theorem M_act0 (I : Iv b po bs r n t N m) (hx : ¬ Ix N x) (T : MT m k hs kp im is sd bk ba bv g) : Den 182 [.ref 86, .int x, .int y] (HP L g) = some (some (-1000000001), HP L g) := by
  obtain ⟨rs0, e0, -⟩ := M_now (L := L) T
  obtain ⟨ok, sh, h6, hN, -⟩ := I.1
  rw [e0, D0_182]
  simp only [e182_0, e182_1, e182_2, e182_5, e182_8, e182_10, e182_11, e182_12, e182_56, e182_57, e182_58, e182_59, e182_60, e182_63, e182_64, e182_65, e182_66, e182_67, e182_68, e182_71, e182_72, e182_73, e182_74, e182_75, e182_76, e182_79, e182_80, e182_81, e182_82, e182_83, e182_84, e182_87, e182_88, e182_89, e182_90, e182_91, e182_92, e182_95, e182_96, e182_97, e182_98, e182_101, e182_104, e182_105, e182_108, e182_109, e182_110, e182_113, e182_116, e182_117, e182_120, e182_121, e182_122, e182_123, e182_124, e182_127, e182_130, e182_131, e182_134, e182_135, e182_136, e182_139, e182_142, e182_143, e182_146, e182_147, e182_148, e182_150, en_40, en_45, en_126, en_174, en_175, i_86, M_isAct h6 (show N < 1000 by omega), b2c_f hx, zz, not_true_eq_false, if_false, lvH_Hq, Option.bind_some, psh_i, psh_n, Hq_G, Hq_setG, upf_same, upf_upf]
theorem M_act1 (I : Iv b po bs r n t N m) {a : Nat} (ha : a < N) (hy : ∀ w, w < 7 → ¬ y = nI w) (T : MT m k hs kp im is sd bk ba bv g) : Den 182 [.ref 86, .int (nI a), .int y] (HP L g) = some (some (-1000000002), HP L g) := by
  obtain ⟨rs0, e0, -⟩ := M_now (L := L) T
  obtain ⟨ok, sh, h6, hN, -⟩ := I.1
  have hne : ∀ i, i < 7 → (y = nI i) = False := fun i hi => eq_false (hy i hi)
  rw [e0, D0_182]
  simp only [e182_0, e182_1, e182_2, e182_5, e182_8, e182_10, e182_11, e182_12, e182_56, e182_57, e182_58, e182_59, e182_60, e182_63, e182_64, e182_65, e182_66, e182_67, e182_68, e182_71, e182_72, e182_73, e182_74, e182_75, e182_76, e182_79, e182_80, e182_81, e182_82, e182_83, e182_84, e182_87, e182_88, e182_89, e182_90, e182_91, e182_92, e182_95, e182_96, e182_97, e182_98, e182_101, e182_104, e182_105, e182_108, e182_109, e182_110, e182_113, e182_116, e182_117, e182_120, e182_121, e182_122, e182_123, e182_124, e182_127, e182_130, e182_131, e182_134, e182_135, e182_136, e182_139, e182_142, e182_143, e182_146, e182_147, e182_148, e182_150, en_40, en_45, en_126, en_174, en_175, i_86, M_isAct h6 (show N < 1000 by omega), b2c_t (show Ix N (nI a) from ⟨a, ha, rfl⟩), hne 0 (by omega), hne 1 (by omega), hne 2 (by omega), hne 3 (by omega), hne 4 (by omega), hne 5 (by omega), hne 6 (by omega), one_n0, not_false_eq_true, if_true, if_false, lvH_Hq, Option.bind_some, psh_i, psh_n, Hq_G, Hq_setG, upf_same, upf_upf]
theorem M_act (I : Iv b po bs r n t N m) {a w : Nat} (ha : a < N) (hw : w < 7) (T : MT m k hs kp im is sd bk ba bv g) : Den 182 [.ref 86, .int (nI a), .int (nI w)] (HP L g) = some (some (acM m N a w), HP L g) := by
  obtain ⟨rs0, e0, -⟩ := M_now (L := L) T
  have HI := Iv_hI I.1
  obtain ⟨ok, sh, h6, hN, -⟩ := I.1
  have ta : b2c (Ix N (nI a)) = nI 1 := b2c_t ⟨a, ha, rfl⟩
  have ha7 : a < 7 := by omega
  rw [e0, D0_182]
  match w, hw with
  | 0, _ =>
    simp only [e182_0, e182_1, e182_2, e182_5, e182_8, e182_10, e182_11, e182_12, e182_56, e182_57, e182_58, e182_59, e182_60, e182_63, e182_64, e182_65, e182_66, e182_67, e182_68, e182_71, e182_72, e182_73, e182_74, e182_75, e182_76, e182_79, e182_80, e182_81, e182_82, e182_83, e182_84, e182_87, e182_88, e182_89, e182_90, e182_91, e182_92, e182_95, e182_96, e182_97, e182_98, e182_101, e182_104, e182_105, e182_108, e182_109, e182_110, e182_113, e182_116, e182_117, e182_120, e182_121, e182_122, e182_123, e182_124, e182_127, e182_130, e182_131, e182_134, e182_135, e182_136, e182_139, e182_142, e182_143, e182_146, e182_147, e182_148, e182_150, en_40, en_45, en_126, en_174, en_175, i_86, M_isAct h6 (show N < 1000 by omega), ta, M_ofRow ha7, K10_19 0 (by decide), one_n0, Nat.reduceEqDiff, not_false_eq_true, if_true, if_false, lvH_Hq, Option.bind_some, psh_i, psh_n, Hq_G, Hq_setG, upf_same, upf_upf, Nat.reduceLT, Nat.reduceLeDiff, Nat.reduceAdd, Nat.reduceMul]
    rfl
  | 1, _ =>
    simp only [e182_0, e182_1, e182_2, e182_5, e182_8, e182_10, e182_11, e182_12, e182_56, e182_57, e182_58, e182_59, e182_60, e182_63, e182_64, e182_65, e182_66, e182_67, e182_68, e182_71, e182_72, e182_73, e182_74, e182_75, e182_76, e182_79, e182_80, e182_81, e182_82, e182_83, e182_84, e182_87, e182_88, e182_89, e182_90, e182_91, e182_92, e182_95, e182_96, e182_97, e182_98, e182_101, e182_104, e182_105, e182_108, e182_109, e182_110, e182_113, e182_116, e182_117, e182_120, e182_121, e182_122, e182_123, e182_124, e182_127, e182_130, e182_131, e182_134, e182_135, e182_136, e182_139, e182_142, e182_143, e182_146, e182_147, e182_148, e182_150, en_40, en_45, en_126, en_174, en_175, i_86, M_isAct h6 (show N < 1000 by omega), ta, M_ofRow ha7, K10_19 1 (by decide), one_n0, Nat.reduceEqDiff, not_false_eq_true, if_true, if_false, lvH_Hq, Option.bind_some, psh_i, psh_n, Hq_G, Hq_setG, upf_same, upf_upf, Nat.reduceLT, Nat.reduceLeDiff, Nat.reduceAdd, Nat.reduceMul]
    rfl
  | 2, _ =>
    simp only [e182_0, e182_1, e182_2, e182_5, e182_8, e182_10, e182_11, e182_12, e182_56, e182_57, e182_58, e182_59, e182_60, e182_63, e182_64, e182_65, e182_66, e182_67, e182_68, e182_71, e182_72, e182_73, e182_74, e182_75, e182_76, e182_79, e182_80, e182_81, e182_82, e182_83, e182_84, e182_87, e182_88, e182_89, e182_90, e182_91, e182_92, e182_95, e182_96, e182_97, e182_98, e182_101, e182_104, e182_105, e182_108, e182_109, e182_110, e182_113, e182_116, e182_117, e182_120, e182_121, e182_122, e182_123, e182_124, e182_127, e182_130, e182_131, e182_134, e182_135, e182_136, e182_139, e182_142, e182_143, e182_146, e182_147, e182_148, e182_150, en_40, en_45, en_126, en_174, en_175, i_86, M_isAct h6 (show N < 1000 by omega), ta, M_ofRow ha7, K10_19 2 (by decide), one_n0, Nat.reduceEqDiff, not_false_eq_true, if_true, if_false, lvH_Hq, Option.bind_some, psh_i, psh_n, Hq_G, Hq_setG, upf_same, upf_upf, Nat.reduceLT, Nat.reduceLeDiff, Nat.reduceAdd, Nat.reduceMul]
    rfl
  | 3, _ =>
    simp only [e182_0, e182_1, e182_2, e182_5, e182_8, e182_10, e182_11, e182_12, e182_56, e182_57, e182_58, e182_59, e182_60, e182_63, e182_64, e182_65, e182_66, e182_67, e182_68, e182_71, e182_72, e182_73, e182_74, e182_75, e182_76, e182_79, e182_80, e182_81, e182_82, e182_83, e182_84, e182_87, e182_88, e182_89, e182_90, e182_91, e182_92, e182_95, e182_96, e182_97, e182_98, e182_101, e182_104, e182_105, e182_108, e182_109, e182_110, e182_113, e182_116, e182_117, e182_120, e182_121, e182_122, e182_123, e182_124, e182_127, e182_130, e182_131, e182_134, e182_135, e182_136, e182_139, e182_142, e182_143, e182_146, e182_147, e182_148, e182_150, en_40, en_45, en_126, en_174, en_175, i_86, M_isAct h6 (show N < 1000 by omega), ta, M_ofRow ha7, K10_19 3 (by decide), one_n0, Nat.reduceEqDiff, not_false_eq_true, if_true, if_false, lvH_Hq, Option.bind_some, psh_i, psh_n, Hq_G, Hq_setG, upf_same, upf_upf, Nat.reduceLT, Nat.reduceLeDiff, Nat.reduceAdd, Nat.reduceMul]
    rfl
  | 4, _ =>
    simp only [e182_0, e182_1, e182_2, e182_5, e182_8, e182_10, e182_11, e182_12, e182_56, e182_57, e182_58, e182_59, e182_60, e182_63, e182_64, e182_65, e182_66, e182_67, e182_68, e182_71, e182_72, e182_73, e182_74, e182_75, e182_76, e182_79, e182_80, e182_81, e182_82, e182_83, e182_84, e182_87, e182_88, e182_89, e182_90, e182_91, e182_92, e182_95, e182_96, e182_97, e182_98, e182_101, e182_104, e182_105, e182_108, e182_109, e182_110, e182_113, e182_116, e182_117, e182_120, e182_121, e182_122, e182_123, e182_124, e182_127, e182_130, e182_131, e182_134, e182_135, e182_136, e182_139, e182_142, e182_143, e182_146, e182_147, e182_148, e182_150, en_40, en_45, en_126, en_174, en_175, i_86, M_isAct h6 (show N < 1000 by omega), ta, M_ofRow ha7, K10_19 4 (by decide), one_n0, Nat.reduceEqDiff, not_false_eq_true, if_true, if_false, lvH_Hq, Option.bind_some, psh_i, psh_n, Hq_G, Hq_setG, upf_same, upf_upf, Nat.reduceLT, Nat.reduceLeDiff, Nat.reduceAdd, Nat.reduceMul]
    rfl
  | 5, _ =>
    have e : acM m N a 5 = if hJm m a then b2 (hSf (hyM m) N a) else -1 := rfl
    rw [e]
    by_cases c : hJm m a
    · have ej : b2 (hJm m a) = nI 1 := if_pos c
      simp only [e182_0, e182_1, e182_2, e182_5, e182_8, e182_10, e182_11, e182_12, e182_56, e182_57, e182_58, e182_59, e182_60, e182_63, e182_64, e182_65, e182_66, e182_67, e182_68, e182_71, e182_72, e182_73, e182_74, e182_75, e182_76, e182_79, e182_80, e182_81, e182_82, e182_83, e182_84, e182_87, e182_88, e182_89, e182_90, e182_91, e182_92, e182_95, e182_96, e182_97, e182_98, e182_101, e182_104, e182_105, e182_108, e182_109, e182_110, e182_113, e182_116, e182_117, e182_120, e182_121, e182_122, e182_123, e182_124, e182_127, e182_130, e182_131, e182_134, e182_135, e182_136, e182_139, e182_142, e182_143, e182_146, e182_147, e182_148, e182_150, en_40, en_45, en_126, en_174, en_175, i_86, M_isAct h6 (show N < 1000 by omega), ta, M_isJudged HI hN ha, ej, M_isSafe HI h6 hN ha c.2.2, K10_19 5 (by decide), one_n0, Nat.reduceEqDiff, not_false_eq_true, if_true, if_false, lvH_Hq, Option.bind_some, psh_i, psh_n, Hq_G, Hq_setG, upf_same, upf_upf, Nat.reduceLT, Nat.reduceLeDiff, Nat.reduceAdd, Nat.reduceMul]
      rw [if_pos c]
      by_cases d : hSf (hyM m) N a
      · have ed : b2 (hSf (hyM m) N a) = nI 1 := if_pos d
        simp only [ed, one_n0, if_false]
      · have ed : b2 (hSf (hyM m) N a) = nI 0 := if_neg d
        simp only [ed, zz, if_true]
    · have ej : b2 (hJm m a) = nI 0 := if_neg c
      simp only [e182_0, e182_1, e182_2, e182_5, e182_8, e182_10, e182_11, e182_12, e182_56, e182_57, e182_58, e182_59, e182_60, e182_63, e182_64, e182_65, e182_66, e182_67, e182_68, e182_71, e182_72, e182_73, e182_74, e182_75, e182_76, e182_79, e182_80, e182_81, e182_82, e182_83, e182_84, e182_87, e182_88, e182_89, e182_90, e182_91, e182_92, e182_95, e182_96, e182_97, e182_98, e182_101, e182_104, e182_105, e182_108, e182_109, e182_110, e182_113, e182_116, e182_117, e182_120, e182_121, e182_122, e182_123, e182_124, e182_127, e182_130, e182_131, e182_134, e182_135, e182_136, e182_139, e182_142, e182_143, e182_146, e182_147, e182_148, e182_150, en_40, en_45, en_126, en_174, en_175, i_86, M_isAct h6 (show N < 1000 by omega), ta, M_isJudged HI hN ha, ej, zz, K10_19 5 (by decide), one_n0, Nat.reduceEqDiff, not_true_eq_false, not_false_eq_true, if_true, if_false, lvH_Hq, Option.bind_some, psh_i, psh_n, Hq_G, Hq_setG, upf_same, upf_upf, Nat.reduceLT, Nat.reduceLeDiff, Nat.reduceAdd, Nat.reduceMul]
      rw [if_neg c]
  | 6, _ =>
    have e : acM m N a 6 = if hJm m a then b2 (¬ hGs (hyM m) N a = -1) else -1 := rfl
    rw [e]
    by_cases c : hJm m a
    · have ej : b2 (hJm m a) = nI 1 := if_pos c
      simp only [e182_0, e182_1, e182_2, e182_5, e182_8, e182_10, e182_11, e182_12, e182_56, e182_57, e182_58, e182_59, e182_60, e182_63, e182_64, e182_65, e182_66, e182_67, e182_68, e182_71, e182_72, e182_73, e182_74, e182_75, e182_76, e182_79, e182_80, e182_81, e182_82, e182_83, e182_84, e182_87, e182_88, e182_89, e182_90, e182_91, e182_92, e182_95, e182_96, e182_97, e182_98, e182_101, e182_104, e182_105, e182_108, e182_109, e182_110, e182_113, e182_116, e182_117, e182_120, e182_121, e182_122, e182_123, e182_124, e182_127, e182_130, e182_131, e182_134, e182_135, e182_136, e182_139, e182_142, e182_143, e182_146, e182_147, e182_148, e182_150, en_40, en_45, en_126, en_174, en_175, i_86, M_isAct h6 (show N < 1000 by omega), ta, M_isJudged HI hN ha, ej, M_isRegular HI h6 hN ha c.2.2, K10_19 6 (by decide), one_n0, Nat.reduceEqDiff, not_false_eq_true, if_true, if_false, lvH_Hq, Option.bind_some, psh_i, psh_n, Hq_G, Hq_setG, upf_same, upf_upf, Nat.reduceLT, Nat.reduceLeDiff, Nat.reduceAdd, Nat.reduceMul]
      rw [if_pos c]
      by_cases d : hGs (hyM m) N a = -1
      · have ed : b2 (¬ hGs (hyM m) N a = -1) = nI 0 := if_neg (fun z => z d)
        simp only [ed, zz, if_true]
      · have ed : b2 (¬ hGs (hyM m) N a = -1) = nI 1 := if_pos d
        simp only [ed, one_n0, if_false]
    · have ej : b2 (hJm m a) = nI 0 := if_neg c
      simp only [e182_0, e182_1, e182_2, e182_5, e182_8, e182_10, e182_11, e182_12, e182_56, e182_57, e182_58, e182_59, e182_60, e182_63, e182_64, e182_65, e182_66, e182_67, e182_68, e182_71, e182_72, e182_73, e182_74, e182_75, e182_76, e182_79, e182_80, e182_81, e182_82, e182_83, e182_84, e182_87, e182_88, e182_89, e182_90, e182_91, e182_92, e182_95, e182_96, e182_97, e182_98, e182_101, e182_104, e182_105, e182_108, e182_109, e182_110, e182_113, e182_116, e182_117, e182_120, e182_121, e182_122, e182_123, e182_124, e182_127, e182_130, e182_131, e182_134, e182_135, e182_136, e182_139, e182_142, e182_143, e182_146, e182_147, e182_148, e182_150, en_40, en_45, en_126, en_174, en_175, i_86, M_isAct h6 (show N < 1000 by omega), ta, M_isJudged HI hN ha, ej, zz, K10_19 6 (by decide), one_n0, Nat.reduceEqDiff, not_true_eq_false, not_false_eq_true, if_true, if_false, lvH_Hq, Option.bind_some, psh_i, psh_n, Hq_G, Hq_setG, upf_same, upf_upf, Nat.reduceLT, Nat.reduceLeDiff, Nat.reduceAdd, Nat.reduceMul]
      rw [if_neg c]
  | w + 7, h => omega
theorem M_cell (I : Iv b po bs r n t N m) (T : MT m k hs kp im is sd bk ba bv g) : (∀ c, c < clN b r n → Den 37 [.ref 86, .int (nI c)] (HP L g) = some (some (m.C c), HP L g)) ∧ (¬ Ix (clN b r n) x → Den 37 [.ref 86, .int x] (HP L g) = some (some (-1000000001), HP L g)) := by
  obtain ⟨rs0, e0, -⟩ := M_now (L := L) T
  obtain ⟨ok, sh, h6, hN, -⟩ := I.1
  rw [e0]
  exact ⟨fun c hc => M_cell1 (clls_b sh ok.1) (clN_9 ok) hc, fun hx => M_cell0 (clls_b sh ok.1) (clN_9 ok) hx⟩
end RR
