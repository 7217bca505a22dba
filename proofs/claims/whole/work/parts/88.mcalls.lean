/-! THE MODEL'S CALLS: process, begin, step -/
def prM (m : Sx) (p w : Nat) : Int32 :=
  if w = 0 then m.P p 0 else if w = 1 then (if m.P p 0 = -1 then nI 0 else m.P p 1) else if w = 2 then b2 (mBg m p) else if w = 3 then (if m.P p 0 = -1 then -1 else if 0 < m.P p 5 then mCel m p else -1) else if w = 4 then mChs m p else m.P p 3
section RR
variable {L : Nat} {g : Nat → Nat → Int32} {m : Sx} {k : Nat} {hs : Nat → Sx} {kp : Nat → Bool} {im : Nat → Sx} {is : Nat → Nat} {sd bk : Nat} {ba bv : Nat → Int32} {rs : Nat → Sx} {b po bs r n t N : Nat} {f : Nat → Int32} {x y : Int32}
theorem zz : (nI 0 = 0) = True := eq_true rfl
theorem uw_ix (I : Iv b po bs r n t N m) {p : Nat} (hp : p < 5) : ∃ o, o ≤ 6 ∧ m.P p 7 = nI o ∧ (¬ m.P p 0 = -1 → Ix 7 (m.P p 0)) := by
  obtain ⟨⟨ok, sh, h6, hN, hC0, hA0, hS, hE, hPI, ⟨-, hev⟩, huw, hK⟩, h5⟩ := I
  obtain ⟨⟨-, f6, o, ho, e7, e8⟩, -, hPU⟩ := hPI p hp
  refine ⟨o, ho, e7, fun hu => ?_⟩
  obtain ⟨-, a, ha, e0, -⟩ := hPU hu
  exact ⟨a, by omega, e0⟩
theorem M_process0 (I : Iv b po bs r n t N m) (hx : ¬ Ix (wN b + n) x) (T : MT m k hs kp im is sd bk ba bv g) : Den 161 [.ref 86, .int x, .int y] (HP L g) = some (some (-1000000001), HP L g) := by
  obtain ⟨rs0, e0, -⟩ := M_now (L := L) T
  obtain ⟨ok, sh, h6, hN, -⟩ := I.1
  have hnp := np_le ok
  rw [e0, D0_161]
  simp only [e161_0, e161_1, e161_2, e161_5, e161_8, e161_10, e161_11, e161_12, e161_13, e161_16, e161_17, e161_18, e161_56, e161_57, e161_58, e161_59, e161_62, e161_63, e161_64, e161_67, e161_68, e161_69, e161_70, e161_73, e161_76, e161_77, e161_78, e161_79, e161_80, e161_83, e161_86, e161_87, e161_90, e161_91, e161_92, e161_93, e161_96, e161_97, e161_98, e161_99, e161_102, e161_105, e161_106, e161_107, e161_110, e161_113, e161_114, e161_115, e161_116, e161_117, e161_120, e161_121, e161_122, e161_123, e161_124, e161_127, e161_128, e161_130, en_42, en_85, en_86, en_125, en_142, en_143, i_86, M_isProcess (prcs_b sh ok.1) (by omega), b2c_f hx, zz, not_true_eq_false, if_false, lvH_Hq, Option.bind_some, psh_i, psh_n, Hq_G, Hq_setG, upf_same, upf_upf]
theorem M_process1 (I : Iv b po bs r n t N m) {p : Nat} (hp : p < wN b + n) (hy : ∀ w, w < 6 → ¬ y = nI w) (T : MT m k hs kp im is sd bk ba bv g) : Den 161 [.ref 86, .int (nI p), .int y] (HP L g) = some (some (-1000000002), HP L g) := by
  obtain ⟨rs0, e0, -⟩ := M_now (L := L) T
  obtain ⟨ok, sh, h6, hN, -⟩ := I.1
  have hnp := np_le ok
  have hne : ∀ i, i < 6 → (y = nI i) = False := fun i hi => eq_false (hy i hi)
  rw [e0, D0_161]
  simp only [e161_0, e161_1, e161_2, e161_5, e161_8, e161_10, e161_11, e161_12, e161_13, e161_16, e161_17, e161_18, e161_56, e161_57, e161_58, e161_59, e161_62, e161_63, e161_64, e161_67, e161_68, e161_69, e161_70, e161_73, e161_76, e161_77, e161_78, e161_79, e161_80, e161_83, e161_86, e161_87, e161_90, e161_91, e161_92, e161_93, e161_96, e161_97, e161_98, e161_99, e161_102, e161_105, e161_106, e161_107, e161_110, e161_113, e161_114, e161_115, e161_116, e161_117, e161_120, e161_121, e161_122, e161_123, e161_124, e161_127, e161_128, e161_130, en_42, en_85, en_86, en_125, en_142, en_143, i_86, M_isProcess (prcs_b sh ok.1) (by omega), b2c_t (show Ix (wN b + n) (nI p) from ⟨p, hp, rfl⟩), M_isUnderWay (show p < 5 by omega), hne 0 (by omega), hne 1 (by omega), hne 2 (by omega), hne 3 (by omega), hne 4 (by omega), hne 5 (by omega), one_n0, not_false_eq_true, if_true, if_false, lvH_Hq, Option.bind_some, psh_i, psh_n, Hq_G, Hq_setG, upf_same, upf_upf]
theorem M_process (I : Iv b po bs r n t N m) {p w : Nat} (hp : p < wN b + n) (hw : w < 6) (T : MT m k hs kp im is sd bk ba bv g) : Den 161 [.ref 86, .int (nI p), .int (nI w)] (HP L g) = some (some (prM m p w), HP L g) := by
  obtain ⟨rs0, e0, -⟩ := M_now (L := L) T
  obtain ⟨ok, sh, h6, hN, -⟩ := I.1
  have hnp := np_le ok
  have hp5 : p < 5 := by omega
  obtain ⟨o, ho, e7, hA⟩ := uw_ix I hp5
  have tw : b2c (Ix (wN b + n) (nI p)) = nI 1 := b2c_t ⟨p, hp, rfl⟩
  rw [e0, D0_161]
  match w, hw with
  | 0, _ =>
    simp only [e161_0, e161_1, e161_2, e161_5, e161_8, e161_10, e161_11, e161_12, e161_13, e161_16, e161_17, e161_18, e161_56, e161_57, e161_58, e161_59, e161_62, e161_63, e161_64, e161_67, e161_68, e161_69, e161_70, e161_73, e161_76, e161_77, e161_78, e161_79, e161_80, e161_83, e161_86, e161_87, e161_90, e161_91, e161_92, e161_93, e161_96, e161_97, e161_98, e161_99, e161_102, e161_105, e161_106, e161_107, e161_110, e161_113, e161_114, e161_115, e161_116, e161_117, e161_120, e161_121, e161_122, e161_123, e161_124, e161_127, e161_128, e161_130, en_42, en_85, en_86, en_125, en_142, en_143, i_86, M_isProcess (prcs_b sh ok.1) (show wN b + n < 1000 by omega), tw, M_isUnderWay hp5, M_its hp5, K10_19 0 (by decide), one_n0, Nat.reduceEqDiff, not_true_eq_false, not_false_eq_true, if_true, if_false, lvH_Hq, Option.bind_some, psh_i, psh_n, Hq_G, Hq_setG, upf_same, upf_upf, Nat.reduceLT, Nat.reduceLeDiff, Nat.reduceAdd, Nat.reduceMul]
    rfl
  | 1, _ =>
    simp only [e161_0, e161_1, e161_2, e161_5, e161_8, e161_10, e161_11, e161_12, e161_13, e161_16, e161_17, e161_18, e161_56, e161_57, e161_58, e161_59, e161_62, e161_63, e161_64, e161_67, e161_68, e161_69, e161_70, e161_73, e161_76, e161_77, e161_78, e161_79, e161_80, e161_83, e161_86, e161_87, e161_90, e161_91, e161_92, e161_93, e161_96, e161_97, e161_98, e161_99, e161_102, e161_105, e161_106, e161_107, e161_110, e161_113, e161_114, e161_115, e161_116, e161_117, e161_120, e161_121, e161_122, e161_123, e161_124, e161_127, e161_128, e161_130, en_42, en_85, en_86, en_125, en_142, en_143, i_86, M_isProcess (prcs_b sh ok.1) (show wN b + n < 1000 by omega), tw, M_isUnderWay hp5, M_its hp5, K10_19 1 (by decide), one_n0, Nat.reduceEqDiff, not_true_eq_false, not_false_eq_true, if_true, if_false, lvH_Hq, Option.bind_some, psh_i, psh_n, Hq_G, Hq_setG, upf_same, upf_upf, Nat.reduceLT, Nat.reduceLeDiff, Nat.reduceAdd, Nat.reduceMul, b2_0, Classical.not_not]
    by_cases c : m.P p 0 = -1
    · rw [if_pos c]
      have e : prM m p 1 = nI 0 := if_pos c
      rw [e]
    · rw [if_neg c]
      have e : prM m p 1 = m.P p 1 := if_neg c
      rw [e]
  | 2, _ =>
    simp only [e161_0, e161_1, e161_2, e161_5, e161_8, e161_10, e161_11, e161_12, e161_13, e161_16, e161_17, e161_18, e161_56, e161_57, e161_58, e161_59, e161_62, e161_63, e161_64, e161_67, e161_68, e161_69, e161_70, e161_73, e161_76, e161_77, e161_78, e161_79, e161_80, e161_83, e161_86, e161_87, e161_90, e161_91, e161_92, e161_93, e161_96, e161_97, e161_98, e161_99, e161_102, e161_105, e161_106, e161_107, e161_110, e161_113, e161_114, e161_115, e161_116, e161_117, e161_120, e161_121, e161_122, e161_123, e161_124, e161_127, e161_128, e161_130, en_42, en_85, en_86, en_125, en_142, en_143, i_86, M_isProcess (prcs_b sh ok.1) (show wN b + n < 1000 by omega), tw, M_isUnderWay hp5, M_isBegun hp5, K10_19 2 (by decide), one_n0, Nat.reduceEqDiff, not_true_eq_false, not_false_eq_true, if_true, if_false, lvH_Hq, Option.bind_some, psh_i, psh_n, Hq_G, Hq_setG, upf_same, upf_upf, Nat.reduceLT, Nat.reduceLeDiff, Nat.reduceAdd, Nat.reduceMul, b2_0]
    show _ = some (some (b2 (mBg m p)), _)
    unfold b2
    by_cases c : mBg m p
    · rw [if_neg (fun z => z c), if_pos c]
    · rw [if_pos c, if_neg c]
  | 3, _ =>
    have e : prM m p 3 = if m.P p 0 = -1 then -1 else if 0 < m.P p 5 then mCel m p else -1 := rfl
    rw [e]
    by_cases c : m.P p 0 = -1
    · simp only [e161_0, e161_1, e161_2, e161_5, e161_8, e161_10, e161_11, e161_12, e161_13, e161_16, e161_17, e161_18, e161_56, e161_57, e161_58, e161_59, e161_62, e161_63, e161_64, e161_67, e161_68, e161_69, e161_70, e161_73, e161_76, e161_77, e161_78, e161_79, e161_80, e161_83, e161_86, e161_87, e161_90, e161_91, e161_92, e161_93, e161_96, e161_97, e161_98, e161_99, e161_102, e161_105, e161_106, e161_107, e161_110, e161_113, e161_114, e161_115, e161_116, e161_117, e161_120, e161_121, e161_122, e161_123, e161_124, e161_127, e161_128, e161_130, en_42, en_85, en_86, en_125, en_142, en_143, i_86, M_isProcess (prcs_b sh ok.1) (show wN b + n < 1000 by omega), tw, M_isUnderWay hp5, M_its hp5, K10_19 3 (by decide), one_n0, Nat.reduceEqDiff, not_true_eq_false, not_false_eq_true, if_true, if_false, lvH_Hq, Option.bind_some, psh_i, psh_n, Hq_G, Hq_setG, upf_same, upf_upf, Nat.reduceLT, Nat.reduceLeDiff, Nat.reduceAdd, Nat.reduceMul, b2_0, Classical.not_not, c]
    · simp only [e161_0, e161_1, e161_2, e161_5, e161_8, e161_10, e161_11, e161_12, e161_13, e161_16, e161_17, e161_18, e161_56, e161_57, e161_58, e161_59, e161_62, e161_63, e161_64, e161_67, e161_68, e161_69, e161_70, e161_73, e161_76, e161_77, e161_78, e161_79, e161_80, e161_83, e161_86, e161_87, e161_90, e161_91, e161_92, e161_93, e161_96, e161_97, e161_98, e161_99, e161_102, e161_105, e161_106, e161_107, e161_110, e161_113, e161_114, e161_115, e161_116, e161_117, e161_120, e161_121, e161_122, e161_123, e161_124, e161_127, e161_128, e161_130, en_42, en_85, en_86, en_125, en_142, en_143, i_86, M_isProcess (prcs_b sh ok.1) (show wN b + n < 1000 by omega), tw, M_isUnderWay hp5, M_its hp5, M_cellOf hp5 (hA c), K10_19 3 (by decide), one_n0, Nat.reduceEqDiff, not_true_eq_false, not_false_eq_true, if_true, if_false, lvH_Hq, Option.bind_some, psh_i, psh_n, Hq_G, Hq_setG, upf_same, upf_upf, Nat.reduceLT, Nat.reduceLeDiff, Nat.reduceAdd, Nat.reduceMul, b2_0, Classical.not_not, c]
      by_cases c2 : 0 < m.P p 5
      · rw [if_neg (Int32.not_le.mpr c2), if_pos c2]
      · rw [if_pos (Int32.not_lt.mp c2), if_neg c2]
  | 4, _ =>
    simp only [e161_0, e161_1, e161_2, e161_5, e161_8, e161_10, e161_11, e161_12, e161_13, e161_16, e161_17, e161_18, e161_56, e161_57, e161_58, e161_59, e161_62, e161_63, e161_64, e161_67, e161_68, e161_69, e161_70, e161_73, e161_76, e161_77, e161_78, e161_79, e161_80, e161_83, e161_86, e161_87, e161_90, e161_91, e161_92, e161_93, e161_96, e161_97, e161_98, e161_99, e161_102, e161_105, e161_106, e161_107, e161_110, e161_113, e161_114, e161_115, e161_116, e161_117, e161_120, e161_121, e161_122, e161_123, e161_124, e161_127, e161_128, e161_130, en_42, en_85, en_86, en_125, en_142, en_143, i_86, M_isProcess (prcs_b sh ok.1) (show wN b + n < 1000 by omega), tw, M_isUnderWay hp5, M_choices hp5 (show o ≤ 10 by omega) e7, K10_19 4 (by decide), one_n0, Nat.reduceEqDiff, not_true_eq_false, not_false_eq_true, if_true, if_false, lvH_Hq, Option.bind_some, psh_i, psh_n, Hq_G, Hq_setG, upf_same, upf_upf, Nat.reduceLT, Nat.reduceLeDiff, Nat.reduceAdd, Nat.reduceMul]
    rfl
  | 5, _ =>
    simp only [e161_0, e161_1, e161_2, e161_5, e161_8, e161_10, e161_11, e161_12, e161_13, e161_16, e161_17, e161_18, e161_56, e161_57, e161_58, e161_59, e161_62, e161_63, e161_64, e161_67, e161_68, e161_69, e161_70, e161_73, e161_76, e161_77, e161_78, e161_79, e161_80, e161_83, e161_86, e161_87, e161_90, e161_91, e161_92, e161_93, e161_96, e161_97, e161_98, e161_99, e161_102, e161_105, e161_106, e161_107, e161_110, e161_113, e161_114, e161_115, e161_116, e161_117, e161_120, e161_121, e161_122, e161_123, e161_124, e161_127, e161_128, e161_130, en_42, en_85, en_86, en_125, en_142, en_143, i_86, M_isProcess (prcs_b sh ok.1) (show wN b + n < 1000 by omega), tw, M_isUnderWay hp5, M_its hp5, K10_19 5 (by decide), one_n0, Nat.reduceEqDiff, not_true_eq_false, not_false_eq_true, if_true, if_false, lvH_Hq, Option.bind_some, psh_i, psh_n, Hq_G, Hq_setG, upf_same, upf_upf, Nat.reduceLT, Nat.reduceLeDiff, Nat.reduceAdd, Nat.reduceMul]
    rfl
  | w + 6, h => omega
theorem M_step0 (I : Iv b po bs r n t N m) (hx : ¬ Ix (wN b + n) x) (T : MT m k hs kp im is sd bk ba bv g) : Den 192 [.ref 86, .int x, .int y] (HP L g) = some (some (-1000000001), HP L g) := by
  obtain ⟨rs0, e0, -⟩ := M_now (L := L) T
  obtain ⟨ok, sh, h6, hN, -⟩ := I.1
  have hnp := np_le ok
  rw [e0, D0_192]
  simp only [e192_0, e192_1, e192_2, e192_5, e192_8, e192_10, e192_11, e192_12, e192_13, e192_16, e192_19, e192_21, e192_22, e192_23, e192_24, e192_25, e192_26, e192_27, e192_30, e192_31, e192_32, e192_33, e192_36, e192_39, e192_41, e192_42, e192_43, e192_46, e192_47, e192_48, e192_49, e192_52, e192_53, e192_54, e192_57, e192_60, e192_61, e192_64, e192_65, en_10, en_47, en_85, en_86, en_143, en_184, i_86, M_isProcess (prcs_b sh ok.1) (by omega), b2c_f hx, zz, not_true_eq_false, if_false, lvH_Hq, Option.bind_some, psh_i, psh_n, Hq_G, Hq_setG, upf_same, upf_upf]
theorem M_step1 (I : Iv b po bs r n t N m) {p : Nat} (hp : p < wN b + n) (hu : m.P p 0 = -1) (T : MT m k hs kp im is sd bk ba bv g) : Den 192 [.ref 86, .int (nI p), .int y] (HP L g) = some (some (-1000000003), HP L g) := by
  obtain ⟨rs0, e0, -⟩ := M_now (L := L) T
  obtain ⟨ok, sh, h6, hN, -⟩ := I.1
  have hnp := np_le ok
  rw [e0, D0_192]
  simp only [e192_0, e192_1, e192_2, e192_5, e192_8, e192_10, e192_11, e192_12, e192_13, e192_16, e192_19, e192_21, e192_22, e192_23, e192_24, e192_25, e192_26, e192_27, e192_30, e192_31, e192_32, e192_33, e192_36, e192_39, e192_41, e192_42, e192_43, e192_46, e192_47, e192_48, e192_49, e192_52, e192_53, e192_54, e192_57, e192_60, e192_61, e192_64, e192_65, en_10, en_47, en_85, en_86, en_143, en_184, i_86, M_isProcess (prcs_b sh ok.1) (show wN b + n < 1000 by omega), b2c_t (show Ix (wN b + n) (nI p) from ⟨p, hp, rfl⟩), M_isUnderWay (show p < 5 by omega), one_n0, not_true_eq_false, not_false_eq_true, if_true, if_false, lvH_Hq, Option.bind_some, psh_i, psh_n, Hq_G, Hq_setG, upf_same, upf_upf, b2_0, Classical.not_not, hu]
theorem M_step2 (I : Iv b po bs r n t N m) {p kk : Nat} (hp : p < wN b + n) (hu : ¬ m.P p 0 = -1) (hkk : mChs m p = nI kk) (hk7 : kk ≤ 7) (hy : ¬ Ix kk y) (T : MT m k hs kp im is sd bk ba bv g) : Den 192 [.ref 86, .int (nI p), .int y] (HP L g) = some (some (-1000000002), HP L g) := by
  obtain ⟨rs0, e0, -⟩ := M_now (L := L) T
  obtain ⟨ok, sh, h6, hN, -⟩ := I.1
  have hnp := np_le ok
  obtain ⟨o, ho, e7, hA⟩ := uw_ix I (show p < 5 by omega)
  have e : b2 (nI 0 ≤ y ∧ y ≤ nI kk - nI 1) = nI 0 := if_neg (fun z => hy ((rng_ix (by omega)).mp z))
  rw [e0, D0_192]
  simp only [e192_0, e192_1, e192_2, e192_5, e192_8, e192_10, e192_11, e192_12, e192_13, e192_16, e192_19, e192_21, e192_22, e192_23, e192_24, e192_25, e192_26, e192_27, e192_30, e192_31, e192_32, e192_33, e192_36, e192_39, e192_41, e192_42, e192_43, e192_46, e192_47, e192_48, e192_49, e192_52, e192_53, e192_54, e192_57, e192_60, e192_61, e192_64, e192_65, en_10, en_47, en_85, en_86, en_143, en_184, i_86, M_isProcess (prcs_b sh ok.1) (show wN b + n < 1000 by omega), b2c_t (show Ix (wN b + n) (nI p) from ⟨p, hp, rfl⟩), M_isUnderWay (show p < 5 by omega), M_choices (show p < 5 by omega) (show o ≤ 10 by omega) e7, hkk, M_in (x := y) (lo := nI 0) (hi := nI kk - nI 1) (l := 0) (u := (nI kk - nI 1).toInt64) (by decide) rfl, e, zz, not_true_eq_false, one_n0, not_false_eq_true, if_true, if_false, lvH_Hq, Option.bind_some, psh_i, psh_n, Hq_G, Hq_setG, upf_same, upf_upf, b2_0, hu]
theorem M_step (I : Iv b po bs r n t N m) {p j kk : Nat} (hp : p < wN b + n) (hu : ¬ m.P p 0 = -1) (hkk : mChs m p = nI kk) (hk7 : kk ≤ 7) (hj : j < kk) (pre : mPre m p (wN b + n)) (hk16 : k ≤ 16) (T : MT m k hs kp im is sd bk ba bv g) :
    ∃ g', Den 192 [.ref 86, .int (nI p), .int (nI j)] (HP L g) = some (some (b2 ((mStp m p (wN b + n) (nI j)).P p 0 = -1)), HP L g') ∧ MT (mStp m p (wN b + n) (nI j)) (if k < 16 then k + 1 else 16) (hcons m hs) kp im is sd bk ba bv g' ∧ frM g g' := by
  obtain ⟨rs0, e0, -⟩ := M_now (L := L) T
  obtain ⟨rs1, g1, h1, h2⟩ := M_rem (L := L) hk16 T
  obtain ⟨ok, sh, h6, hN, -⟩ := I.1
  have hnp := np_le ok
  have hp5 : p < 5 := by omega
  obtain ⟨o, ho, e7, hA⟩ := uw_ix I hp5
  have e : b2 (nI 0 ≤ nI j ∧ nI j ≤ nI kk - nI 1) = nI 1 := if_pos ((rng_ix (by omega)).mpr ⟨j, hj, rfl⟩)
  refine ⟨_, ?_, h2 _⟩
  rw [e0] at h1
  rw [e0, D0_192]
  simp only [e192_0, e192_1, e192_2, e192_5, e192_8, e192_10, e192_11, e192_12, e192_13, e192_16, e192_19, e192_21, e192_22, e192_23, e192_24, e192_25, e192_26, e192_27, e192_30, e192_31, e192_32, e192_33, e192_36, e192_39, e192_41, e192_42, e192_43, e192_46, e192_47, e192_48, e192_49, e192_52, e192_53, e192_54, e192_57, e192_60, e192_61, e192_64, e192_65, en_10, en_47, en_85, en_86, en_143, en_184, i_86, M_isProcess (prcs_b sh ok.1) (show wN b + n < 1000 by omega), b2c_t (show Ix (wN b + n) (nI p) from ⟨p, hp, rfl⟩), M_isUnderWay hp5, M_choices hp5 (show o ≤ 10 by omega) e7, hkk, M_in (x := nI j) (lo := nI 0) (hi := nI kk - nI 1) (l := 0) (u := (nI kk - nI 1).toInt64) (by decide) rfl, e, h1, M_stepNow hp5 pre, one_n0, not_false_eq_true, if_true, if_false, lvH_Hq, Option.bind_some, psh_i, psh_n, Hq_G, Hq_setG, upf_same, upf_upf, b2_0, hu, b2_01, one_01, zero_01, Classical.not_not]
  by_cases c : (mStp m p (wN b + n) (nI j)).P p 0 = -1
  · have e : b2 ((mStp m p (wN b + n) (nI j)).P p 0 = -1) = nI 1 := if_pos c
    rw [e, if_pos c]
  · have e : b2 ((mStp m p (wN b + n) (nI j)).P p 0 = -1) = nI 0 := if_neg c
    rw [e, if_neg c]
end RR
