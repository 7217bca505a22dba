/-! THE CLASS' CALLS: step, begin, process, act -/
section RR
variable {L : Nat} {g g' : Nat → Nat → Int32} {c m : Sx} {k : Nat} {hc : Nat → Sx} {kp : Nat → Bool} {ic : Nat → Sx} {is : Nat → Nat} {sd bk : Nat} {ba bv : Nat → Int32} {b po bs r n t N : Nat} {x y : Int32}
/-- a step of the class, wherever its state lies -/
theorem K_go {p j kk : Nat} (I : Iv b po bs r n t N m) (R : Rl c m) (hp : p < 5) (hu : ¬ m.P p 0 = -1) (hkk : mChs m p = nI kk) (hk7 : kk ≤ 7) (hj : j < kk) :
    (∀ (q1 q2 : Nat) (g : Nat → Nat → Int32), St 170 (SF L) q1 q2 → g q2 = lay c → Den 150 [.ref q1, .int (nI p), .int (nI j)] (HP L g) = some (some (b2 ((mStp m p (wN b + n) (nI j)).P p 0 = -1)), HP L (upf g q2 (lay (goC c p (nI j)))))) ∧ Rl (goC c p (nI j)) (mStp m p (wN b + n) (nI j)) := by
  obtain ⟨s1, s2, s3, s4, s5, s6, s7⟩ := step_all I R hp hu (show j < 2147483648 by omega) (by rw [hkk]; exact nI_lt hj (by omega))
  refine ⟨fun q1 q2 g hs hg => ?_, s2⟩
  have d := D_go (g := g) hs hp s5 s6 (show Ix 8 (nI j) from ⟨j, s7, rfl⟩)
  rw [upf_eq hg] at d
  rw [d, b2_iff s3]
theorem C_step0 (I : Iv b po bs r n t N m) (R : Rl c m) (hx : ¬ Ix (wN b + n) x) (T : KT c k hc kp ic is sd bk ba bv g) : Den 169 [.ref 1, .int x, .int y] (HP L g) = some (some (-1000000001), HP L g) := by
  have hnp := np_le I.1.1
  have hp := prcs_b (shC R I.1.2.1) I.1.1.1
  rw [HP_3 (L := L) T.1, D0_169]
  simp only [e169_0, e169_1, e169_2, e169_5, e169_8, e169_10, e169_11, e169_12, e169_15, e169_16, e169_19, e169_22, e169_24, e169_25, e169_26, e169_27, e169_28, e169_31, e169_32, e169_35, e169_36, e169_37, e169_40, e169_43, e169_45, e169_46, e169_47, e169_50, e169_51, e169_54, e169_55, e169_56, e169_59, e169_62, e169_63, e169_66, e169_67, en_35, en_66, en_112, en_118, en_140, en_150, i_1, C_isProcess hp (show wN b + n < 1000 by omega), b2c_f hx, zz, not_true_eq_false, if_false, lvH_Hq, Option.bind_some, psh_i]
theorem C_step1 (I : Iv b po bs r n t N m) (R : Rl c m) {p : Nat} (hp : p < wN b + n) (hu : m.P p 0 = -1) (T : KT c k hc kp ic is sd bk ba bv g) : Den 169 [.ref 1, .int (nI p), .int y] (HP L g) = some (some (-1000000003), HP L g) := by
  have hnp := np_le I.1.1
  have hpr := prcs_b (shC R I.1.2.1) I.1.1.1
  have hp5 : p < 5 := by omega
  have e1 : b2 (¬ c.P p 0 = -1) = nI 0 := if_neg (fun z => z ((R.2 p hp5).1.1.trans hu))
  rw [HP_3 (L := L) T.1, D0_169]
  simp only [e169_0, e169_1, e169_2, e169_5, e169_8, e169_10, e169_11, e169_12, e169_15, e169_16, e169_19, e169_22, e169_24, e169_25, e169_26, e169_27, e169_28, e169_31, e169_32, e169_35, e169_36, e169_37, e169_40, e169_43, e169_45, e169_46, e169_47, e169_50, e169_51, e169_54, e169_55, e169_56, e169_59, e169_62, e169_63, e169_66, e169_67, en_35, en_66, en_112, en_118, en_140, en_150, i_1, i_2, f_1_0, C_isProcess hpr (show wN b + n < 1000 by omega), b2c_t (show Ix (wN b + n) (nI p) from ⟨p, hp, rfl⟩), D_isUnderWay st_2 hp5, e1, one_n0, zz, not_true_eq_false, not_false_eq_true, if_true, if_false, lvH_Hq, Option.bind_some, psh_i]
theorem C_step2 (I : Iv b po bs r n t N m) (R : Rl c m) {p kk : Nat} (hp : p < wN b + n) (hu : ¬ m.P p 0 = -1) (hkk : mChs m p = nI kk) (hk7 : kk ≤ 7) (hy : ¬ Ix kk y) (T : KT c k hc kp ic is sd bk ba bv g) : Den 169 [.ref 1, .int (nI p), .int y] (HP L g) = some (some (-1000000002), HP L g) := by
  have hnp := np_le I.1.1
  have hpr := prcs_b (shC R I.1.2.1) I.1.1.1
  have hp5 : p < 5 := by omega
  have e1 : b2 (¬ c.P p 0 = -1) = nI 1 := if_pos (fun z => hu ((R.2 p hp5).1.1.symm.trans z))
  have e2 : chsC c p = nI kk := (chs_ok I R hp5).1.trans hkk
  have e : b2 (nI 0 ≤ y ∧ y ≤ nI kk - nI 1) = nI 0 := if_neg (fun z => hy ((rng_ix (by omega)).mp z))
  rw [HP_3 (L := L) T.1, D0_169]
  simp only [e169_0, e169_1, e169_2, e169_5, e169_8, e169_10, e169_11, e169_12, e169_15, e169_16, e169_19, e169_22, e169_24, e169_25, e169_26, e169_27, e169_28, e169_31, e169_32, e169_35, e169_36, e169_37, e169_40, e169_43, e169_45, e169_46, e169_47, e169_50, e169_51, e169_54, e169_55, e169_56, e169_59, e169_62, e169_63, e169_66, e169_67, en_35, en_66, en_112, en_118, en_140, en_150, i_1, i_2, f_1_0, C_isProcess hpr (show wN b + n < 1000 by omega), b2c_t (show Ix (wN b + n) (nI p) from ⟨p, hp, rfl⟩), D_isUnderWay st_2 hp5, D_choices st_2 hp5, C_within, e1, e2, e, one_n0, zz, not_true_eq_false, not_false_eq_true, if_true, if_false, lvH_Hq, Option.bind_some, psh_i]
theorem C_step (I : Iv b po bs r n t N m) (R : Rl c m) {p j kk : Nat} (hp : p < wN b + n) (hu : ¬ m.P p 0 = -1) (hkk : mChs m p = nI kk) (hk7 : kk ≤ 7) (hj : j < kk) (hk16 : k ≤ 16) (T : KT c k hc kp ic is sd bk ba bv g) :
    ∃ g', Den 169 [.ref 1, .int (nI p), .int (nI j)] (HP L g) = some (some (b2 ((mStp m p (wN b + n) (nI j)).P p 0 = -1)), HP L g') ∧ KT (goC c p (nI j)) (kup k) (hcons c hc) kp ic is sd bk ba bv g' ∧ g' 7 5 = nI 0 ∧ frC g g' := by
  have hnp := np_le I.1.1
  have hpr := prcs_b (shC R I.1.2.1) I.1.1.1
  have hp5 : p < 5 := by omega
  have e1 : b2 (¬ c.P p 0 = -1) = nI 1 := if_pos (fun z => hu ((R.2 p hp5).1.1.symm.trans z))
  have e2 : chsC c p = nI kk := (chs_ok I R hp5).1.trans hkk
  have e : b2 (nI 0 ≤ nI j ∧ nI j ≤ nI kk - nI 1) = nI 1 := if_pos ((rng_ix (by omega)).mpr ⟨j, hj, rfl⟩)
  obtain ⟨g1, d1, T1, h7, F1⟩ := C_remember (L := L) hk16 T
  obtain ⟨d2, -⟩ := K_go (L := L) I R hp5 hu hkk hk7 hj
  have d2 := d2 2 3 g1 st_2 T1.1
  refine ⟨_, ?_, KT_c T1, h7, frC_t F1 (frC_upf (by omega) (by omega))⟩
  rw [HP_3 (L := L) T.1] at d1
  rw [HP_3 (L := L) T.1, D0_169]
  simp only [e169_0, e169_1, e169_2, e169_5, e169_8, e169_10, e169_11, e169_12, e169_15, e169_16, e169_19, e169_22, e169_24, e169_25, e169_26, e169_27, e169_28, e169_31, e169_32, e169_35, e169_36, e169_37, e169_40, e169_43, e169_45, e169_46, e169_47, e169_50, e169_51, e169_54, e169_55, e169_56, e169_59, e169_62, e169_63, e169_66, e169_67, en_35, en_66, en_112, en_118, en_140, en_150, i_1, i_2, f_1_0, C_isProcess hpr (show wN b + n < 1000 by omega), b2c_t (show Ix (wN b + n) (nI p) from ⟨p, hp, rfl⟩), D_isUnderWay st_2 hp5, D_choices st_2 hp5, C_within, e1, e2, e, d1, d2, one_n0, not_true_eq_false, not_false_eq_true, if_true, if_false, lvH_Hq, Option.bind_some, psh_i, psh_n]
  by_cases q : (mStp m p (wN b + n) (nI j)).P p 0 = -1
  · have e : b2 ((mStp m p (wN b + n) (nI j)).P p 0 = -1) = nI 1 := if_pos q
    rw [e, if_neg (show ¬ nI 1 = 0 by decide)]
  · have e : b2 ((mStp m p (wN b + n) (nI j)).P p 0 = -1) = nI 0 := if_neg q
    rw [e, if_pos (show nI 0 = 0 from rfl)]
/-- an act of the class begun, wherever its state lies -/
theorem K_start {p v : Nat} {x : Int32} (I : Iv b po bs r n t N m) (R : Rl c m) (hp : p < wN b + n) (hu : m.P p 0 = -1) (hN7 : N < 7) (hv : v < r) (hx : p < wN b → x = nI v) (g : Nat → Nat → Int32) (hg : g 3 = lay c) :
    Den 151 [.ref 2, .int (nI p), .int x] (HP L g) = some (some (nI N), HP L (upf g 3 (lay (stC c p x)))) ∧ Rl (stC c p x) (mBeg m p x) := by
  have hnp := np_le I.1.1
  have h6 : c.H 6 = nI N := (R.1.1 6 (by omega)).trans I.1.2.2.1
  have d := D_start (g := g) (v := x) (st_2 (L := L)) (show p < 5 by omega) (show Ix 7 (c.H 6) from ⟨N, hN7, h6⟩)
  rw [upf_eq hg, h6] at d
  exact ⟨d, beg_R I R hp hu hN7 hv hx⟩
theorem cP0 (R : Rl c m) {p : Nat} (hp : p < 5) : c.P p 0 = m.P p 0 := (R.2 p hp).1.1
theorem C_beg0 (I : Iv b po bs r n t N m) (R : Rl c m) (hx : ¬ Ix (wN b + n) x) (T : KT c k hc kp ic is sd bk ba bv g) : Den 166 [.ref 1, .int x, .int y] (HP L g) = some (some (-1000000001), HP L g) := by
  have hnp := np_le I.1.1
  have hp := prcs_b (shC R I.1.2.1) I.1.1.1
  rw [HP_3 (L := L) T.1, D0_166]
  simp only [e166_0, e166_1, e166_2, e166_5, e166_8, e166_10, e166_11, e166_12, e166_15, e166_16, e166_19, e166_22, e166_23, e166_24, e166_25, e166_28, e166_29, e166_32, e166_33, e166_34, e166_37, e166_40, e166_42, e166_43, e166_44, e166_47, e166_48, e166_51, e166_54, e166_56, e166_57, e166_58, e166_61, e166_64, e166_67, e166_69, e166_70, e166_71, e166_74, e166_75, e166_78, e166_79, e166_80, e166_83, en_25, en_35, en_63, en_66, en_67, en_118, en_140, en_151, i_1, C_isProcess hp (show wN b + n < 1000 by omega), b2c_f hx, zz, not_true_eq_false, if_false, lvH_Hq, Option.bind_some, psh_i]
theorem C_beg1 (I : Iv b po bs r n t N m) (R : Rl c m) {p : Nat} (hp : p < wN b + n) (hw : p < wN b) (hy : ¬ Ix r y) (T : KT c k hc kp ic is sd bk ba bv g) : Den 166 [.ref 1, .int (nI p), .int y] (HP L g) = some (some (-1000000002), HP L g) := by
  have hnp := np_le I.1.1
  have sh := shC R I.1.2.1
  have hpr := prcs_b sh I.1.1.1
  have hww := wrs_b sh.1 I.1.1.1
  have hp5 : p < 5 := by omega
  have e1 : b2 (p < wrs c) = nI 1 := if_pos (by omega)
  have e : b2 (nI 0 ≤ y ∧ y ≤ nI r - nI 1) = nI 0 := if_neg (fun z => hy ((rng_ix (by have := I.1.1.2.2.2.2.1; omega)).mp z))
  rw [HP_3 (L := L) T.1, D0_166]
  simp only [e166_0, e166_1, e166_2, e166_5, e166_8, e166_10, e166_11, e166_12, e166_15, e166_16, e166_19, e166_22, e166_23, e166_24, e166_25, e166_28, e166_29, e166_32, e166_33, e166_34, e166_37, e166_40, e166_42, e166_43, e166_44, e166_47, e166_48, e166_51, e166_54, e166_56, e166_57, e166_58, e166_61, e166_64, e166_67, e166_69, e166_70, e166_71, e166_74, e166_75, e166_78, e166_79, e166_80, e166_83, en_25, en_35, en_63, en_66, en_67, en_118, en_140, en_151, i_1, i_2, f_1_0, C_isProcess hpr (show wN b + n < 1000 by omega), b2c_t (show Ix (wN b + n) (nI p) from ⟨p, hp, rfl⟩), D_isWriter st_2 hp5, e1, D_get st_2 (show 3 < 7 by omega), sh.2.2.2.1, C_within, e, one_n0, zz, not_true_eq_false, not_false_eq_true, if_true, if_false, lvH_Hq, Option.bind_some, psh_i]
theorem K_begin (I : Iv b po bs r n t N m) (R : Rl c m) {p : Nat} (hp : p < wN b + n) (hv : p < wN b → Ix r y) : Den 166 [.ref 1, .int (nI p), .int y] (HP L (upf g 3 (lay c))) = Rr 166 43 [.ref 1, .int (nI p), .int y] [] (HP L (upf g 3 (lay c))) := by
  have hnp := np_le I.1.1
  have sh := shC R I.1.2.1
  have hpr := prcs_b sh I.1.1.1
  have hww := wrs_b sh.1 I.1.1.1
  have hp5 : p < 5 := by omega
  rw [D0_166]
  by_cases hw : p < wN b
  · have e1 : b2 (p < wrs c) = nI 1 := if_pos (by omega)
    have e : b2 (nI 0 ≤ y ∧ y ≤ nI r - nI 1) = nI 1 := if_pos ((rng_ix (by have := I.1.1.2.2.2.2.1; omega)).mpr (hv hw))
    simp only [e166_0, e166_1, e166_2, e166_5, e166_8, e166_10, e166_11, e166_12, e166_15, e166_16, e166_19, e166_22, e166_23, e166_24, e166_25, e166_28, e166_29, e166_32, e166_33, e166_34, e166_37, e166_40, e166_42, e166_44, e166_47, e166_48, e166_51, e166_54, e166_56, e166_57, e166_58, e166_61, e166_64, e166_67, e166_69, e166_70, e166_71, e166_74, e166_75, e166_78, e166_79, e166_80, e166_83, en_25, en_35, en_63, en_66, en_67, en_118, en_140, en_151, i_1, i_2, f_1_0, C_isProcess hpr (show wN b + n < 1000 by omega), b2c_t (show Ix (wN b + n) (nI p) from ⟨p, hp, rfl⟩), D_isWriter st_2 hp5, e1, D_get st_2 (show 3 < 7 by omega), sh.2.2.2.1, C_within, e, one_n0, not_true_eq_false, not_false_eq_true, if_true, if_false, lvH_Hq, Option.bind_some, psh_i]
  · have e1 : b2 (p < wrs c) = nI 0 := if_neg (by omega)
    simp only [e166_0, e166_1, e166_2, e166_5, e166_8, e166_10, e166_11, e166_12, e166_15, e166_16, e166_19, e166_22, e166_23, e166_24, e166_25, e166_28, e166_29, e166_32, e166_33, e166_34, e166_37, e166_40, e166_42, e166_44, e166_47, e166_48, e166_51, e166_54, e166_56, e166_57, e166_58, e166_61, e166_64, e166_67, e166_69, e166_70, e166_71, e166_74, e166_75, e166_78, e166_79, e166_80, e166_83, en_25, en_35, en_63, en_66, en_67, en_118, en_140, en_151, i_1, i_2, f_1_0, C_isProcess hpr (show wN b + n < 1000 by omega), b2c_t (show Ix (wN b + n) (nI p) from ⟨p, hp, rfl⟩), D_isWriter st_2 hp5, e1, one_n0, zz, not_true_eq_false, not_false_eq_true, if_true, if_false, lvH_Hq, Option.bind_some, psh_i]
theorem C_beg2 (I : Iv b po bs r n t N m) (R : Rl c m) {p : Nat} (hp : p < wN b + n) (hv : p < wN b → Ix r y) (hu : ¬ m.P p 0 = -1) (T : KT c k hc kp ic is sd bk ba bv g) : Den 166 [.ref 1, .int (nI p), .int y] (HP L g) = some (some (-1000000003), HP L g) := by
  have hnp := np_le I.1.1
  have hp5 : p < 5 := by omega
  have e1 : b2 (¬ c.P p 0 = -1) = nI 1 := if_pos (by rw [cP0 R hp5]; exact hu)
  rw [HP_3 (L := L) T.1, K_begin I R hp hv, e166_43]
  simp only [e166_1, e166_2, e166_5, e166_8, e166_10, e166_11, e166_12, e166_15, e166_16, e166_19, e166_22, e166_23, e166_24, e166_25, e166_28, e166_29, e166_32, e166_33, e166_34, e166_37, e166_40, e166_42, e166_44, e166_47, e166_48, e166_51, e166_54, e166_56, e166_57, e166_58, e166_61, e166_64, e166_67, e166_69, e166_70, e166_71, e166_74, e166_75, e166_78, e166_79, e166_80, e166_83, en_25, en_35, en_63, en_66, en_67, en_118, en_140, en_151, i_1, i_2, f_1_0, D_isUnderWay st_2 hp5, e1, one_n0, not_true_eq_false, not_false_eq_true, if_true, if_false, lvH_Hq, Option.bind_some, psh_i]
theorem C_beg3 (I : Iv b po bs r n t 7 m) (R : Rl c m) {p : Nat} (hp : p < wN b + n) (hv : p < wN b → Ix r y) (hu : m.P p 0 = -1) (T : KT c k hc kp ic is sd bk ba bv g) : Den 166 [.ref 1, .int (nI p), .int y] (HP L g) = some (some (-1000000004), HP L g) := by
  have hnp := np_le I.1.1
  have hp5 : p < 5 := by omega
  have e1 : b2 (¬ c.P p 0 = -1) = nI 0 := if_neg (fun z => z ((cP0 R hp5).trans hu))
  have h6 : c.H 6 = nI 7 := (R.1.1 6 (by omega)).trans I.1.2.2.1
  have e2 : b2 (c.H 6 < nI 7) = nI 0 := if_neg (by rw [h6]; decide)
  rw [HP_3 (L := L) T.1, K_begin I R hp hv, e166_43]
  simp only [e166_1, e166_2, e166_5, e166_8, e166_10, e166_11, e166_12, e166_15, e166_16, e166_19, e166_22, e166_23, e166_24, e166_25, e166_28, e166_29, e166_32, e166_33, e166_34, e166_37, e166_40, e166_42, e166_44, e166_47, e166_48, e166_51, e166_54, e166_56, e166_57, e166_58, e166_61, e166_64, e166_67, e166_69, e166_70, e166_71, e166_74, e166_75, e166_78, e166_79, e166_80, e166_83, en_25, en_35, en_63, en_66, en_67, en_118, en_140, en_151, i_1, i_2, f_1_0, D_isUnderWay st_2 hp5, D_hasRoom st_2, e1, e2, zz, not_true_eq_false, not_false_eq_true, if_true, if_false, lvH_Hq, Option.bind_some, psh_i]
theorem C_beg (I : Iv b po bs r n t N m) (R : Rl c m) {p : Nat} (hp : p < wN b + n) (hv : p < wN b → Ix r y) (hu : m.P p 0 = -1) (hN : N < 7) (hk16 : k ≤ 16) (T : KT c k hc kp ic is sd bk ba bv g) :
    ∃ g', Den 166 [.ref 1, .int (nI p), .int y] (HP L g) = some (some (nI N), HP L g') ∧ KT (stC c p y) (kup k) (hcons c hc) kp ic is sd bk ba bv g' ∧ g' 7 5 = nI 0 ∧ frC g g' ∧ Rl (stC c p y) (mBeg m p y) := by
  have hnp := np_le I.1.1
  have hp5 : p < 5 := by omega
  have e1 : b2 (¬ c.P p 0 = -1) = nI 0 := if_neg (fun z => z ((cP0 R hp5).trans hu))
  have h6 : c.H 6 = nI N := (R.1.1 6 (by omega)).trans I.1.2.2.1
  have e2 : b2 (c.H 6 < nI 7) = nI 1 := if_pos (by rw [h6]; exact nI_lt hN (by omega))
  have hr2 := I.1.1.2.2.2.1
  obtain ⟨v, hv2, hx⟩ : ∃ v, v < r ∧ (p < wN b → y = nI v) := by
    by_cases hw : p < wN b
    · obtain ⟨v, hv2, e⟩ := hv hw
      exact ⟨v, hv2, fun _ => e⟩
    · exact ⟨0, by omega, fun z => absurd z hw⟩
  obtain ⟨g1, d1, T1, h7, F1⟩ := C_remember (L := L) hk16 T
  obtain ⟨d2, R2⟩ := K_start (L := L) I R hp hu hN hv2 hx g1 T1.1
  refine ⟨_, ?_, KT_c T1, h7, frC_t F1 (frC_upf (by omega) (by omega)), R2⟩
  rw [HP_3 (L := L) T.1] at d1
  rw [HP_3 (L := L) T.1, K_begin I R hp hv, e166_43]
  simp only [e166_1, e166_2, e166_5, e166_8, e166_10, e166_11, e166_12, e166_15, e166_16, e166_19, e166_22, e166_23, e166_24, e166_25, e166_28, e166_29, e166_32, e166_33, e166_34, e166_37, e166_40, e166_42, e166_44, e166_47, e166_48, e166_51, e166_54, e166_56, e166_57, e166_58, e166_61, e166_64, e166_67, e166_69, e166_70, e166_71, e166_74, e166_75, e166_78, e166_79, e166_80, e166_83, en_25, en_35, en_63, en_66, en_67, en_118, en_140, en_151, i_1, i_2, f_1_0, D_isUnderWay st_2 hp5, D_hasRoom st_2, e1, e2, d1, d2, one_n0, zz, not_true_eq_false, not_false_eq_true, if_true, if_false, lvH_Hq, Option.bind_some, psh_i, psh_n]
def prC (c : Sx) (p w : Nat) : Int32 := if w = 0 then c.P p 0 else if w = 1 then c.P p 1 else if w = 2 then c.P p 2 else if w = 3 then c.P p 3 else if w = 4 then chsC c p else c.P p 4
theorem prC_eq (I : Iv b po bs r n t N m) (R : Rl c m) {p w : Nat} (hp : p < 5) (hw : w < 6) : prC c p w = prM m p w := by
  obtain ⟨h1, -, -⟩ := chs_ok I R hp
  obtain ⟨⟨ok, sh, h6, hN, hC0, hA0, hS, hE, hPI, -⟩, h5⟩ := I
  obtain ⟨-, hz, hPU⟩ := hPI p hp
  obtain ⟨-, RPq⟩ := R
  obtain ⟨⟨r0, r1, r2, r4⟩, rb, rc, rd⟩ := RPq p hp
  match w, hw with
  | 0, _ => exact r0
  | 1, _ =>
    show c.P p 1 = if m.P p 0 = -1 then nI 0 else m.P p 1
    by_cases hu : m.P p 0 = -1
    · rw [if_pos hu, r1]
      exact (hz hu).1
    · rw [if_neg hu]
      exact r1
  | 2, _ =>
    show c.P p 2 = b2 (mBg m p)
    by_cases hu : m.P p 0 = -1
    · exact (r2.trans (hz hu).2).trans (if_neg (fun z : mBg m p => z.1 hu)).symm
    · obtain ⟨-, a, ha, e0, ea0, ea3, ea4, v, hv, ev1, ev2, kk, al, gg, e1, e5, e2, hg2, -⟩ := hPU hu
      by_cases hg : gg = 0
      · exact (r2.trans (by rw [e2, hg])).trans (if_neg (fun z : mBg m p => by
          have h2 := z.2
          rw [e2, hg] at h2
          exact absurd h2 (by decide))).symm
      · have h1 : gg = 1 := by omega
        exact (r2.trans (by rw [e2, h1])).trans (if_pos (show mBg m p from ⟨hu, by rw [e2, h1]⟩)).symm
  | 3, _ =>
    show c.P p 3 = if m.P p 0 = -1 then -1 else if 0 < m.P p 5 then mCel m p else -1
    by_cases hu : m.P p 0 = -1
    · rw [if_pos hu]
      exact rc.1 hu
    · rw [if_neg hu]
      obtain ⟨-, c0, c1⟩ := rc.2 hu
      obtain ⟨hpn, a, ha, e0, ea0, ea3, ea4, v, hv, ev1, ev2, kk, al, gg, e1, e5, e2, hg2, hgb, hx⟩ := hPU hu
      have hal5 := acc_le (q := p) ok hv
      have hal : al ≤ 5 := by rcases hx with hx | hx <;> omega
      by_cases z : al = 0
      · have e : m.P p 5 = nI 0 := by rw [e5, z]
        rw [if_neg (by rw [e]; decide)]
        exact c0 e
      · rw [if_pos (by
          rw [e5]
          exact nI_lt (a := 0) (by omega) (by omega))]
        exact (c1 (fun h => z ((nI_eq (by omega) (by omega)).mp (e5.symm.trans h)))).1
  | 4, _ => exact h1
  | 5, _ => exact r4
theorem C_process0 (I : Iv b po bs r n t N m) (R : Rl c m) (hx : ¬ Ix (wN b + n) x) (T : KT c k hc kp ic is sd bk ba bv g) : Den 155 [.ref 1, .int x, .int y] (HP L g) = some (some (-1000000001), HP L g) := by
  have hnp := np_le I.1.1
  have hp := prcs_b (shC R I.1.2.1) I.1.1.1
  rw [HP_3 (L := L) T.1, D0_155]
  simp only [e155_0, e155_1, e155_2, e155_5, e155_8, e155_10, e155_11, e155_12, e155_13, e155_14, e155_17, e155_20, e155_22, e155_23, e155_24, e155_60, e155_61, e155_64, e155_65, e155_66, e155_69, e155_70, e155_71, e155_74, e155_75, e155_76, e155_79, e155_80, e155_81, e155_84, e155_85, e155_86, e155_89, e155_90, e155_91, e155_94, e155_95, e155_96, e155_99, e155_100, e155_101, e155_104, e155_105, e155_108, e155_109, e155_110, e155_113, e155_114, e155_115, e155_118, en_28, en_35, en_112, en_140, i_1, C_isProcess hp (show wN b + n < 1000 by omega), b2c_f hx, zz, not_true_eq_false, if_false, lvH_Hq, Option.bind_some, psh_i]
theorem C_process1 (I : Iv b po bs r n t N m) (R : Rl c m) {p : Nat} (hp : p < wN b + n) (hy : ∀ w, w < 6 → ¬ y = nI w) (T : KT c k hc kp ic is sd bk ba bv g) : Den 155 [.ref 1, .int (nI p), .int y] (HP L g) = some (some (-1000000002), HP L g) := by
  have hnp := np_le I.1.1
  have hpr := prcs_b (shC R I.1.2.1) I.1.1.1
  have e : b2 (nI 0 ≤ y ∧ y ≤ nI 5) = nI 0 := if_neg (fun z => by
    obtain ⟨j, -, h2, e⟩ := (rng_n (by omega) (by omega)).mp z
    exact hy j (by omega) e)
  rw [HP_3 (L := L) T.1, D0_155]
  simp only [e155_0, e155_1, e155_2, e155_5, e155_8, e155_10, e155_11, e155_12, e155_13, e155_14, e155_17, e155_20, e155_22, e155_23, e155_24, e155_60, e155_61, e155_64, e155_65, e155_66, e155_69, e155_70, e155_71, e155_74, e155_75, e155_76, e155_79, e155_80, e155_81, e155_84, e155_85, e155_86, e155_89, e155_90, e155_91, e155_94, e155_95, e155_96, e155_99, e155_100, e155_101, e155_104, e155_105, e155_108, e155_109, e155_110, e155_113, e155_114, e155_115, e155_118, en_28, en_35, en_112, en_140, i_1, C_isProcess hpr (show wN b + n < 1000 by omega), b2c_t (show Ix (wN b + n) (nI p) from ⟨p, hp, rfl⟩), C_within, e, one_n0, zz, not_true_eq_false, not_false_eq_true, if_true, if_false, lvH_Hq, Option.bind_some, psh_i]
theorem C_process (I : Iv b po bs r n t N m) (R : Rl c m) {p w : Nat} (hp : p < wN b + n) (hw : w < 6) (T : KT c k hc kp ic is sd bk ba bv g) : Den 155 [.ref 1, .int (nI p), .int (nI w)] (HP L g) = some (some (prM m p w), HP L g) := by
  have hnp := np_le I.1.1
  have hpr := prcs_b (shC R I.1.2.1) I.1.1.1
  have hp5 : p < 5 := by omega
  have e : b2 (nI 0 ≤ nI w ∧ nI w ≤ nI 5) = nI 1 := if_pos ((rng_n (by omega) (by omega)).mpr ⟨w, by omega, by omega, rfl⟩)
  rw [← prC_eq I R hp5 hw, HP_3 (L := L) T.1, D0_155]
  have tw := b2c_t (show Ix (wN b + n) (nI p) from ⟨p, hp, rfl⟩)
  have hn1000 : wN b + n < 1000 := by omega
  match w, hw with
  | 0, _ =>
    simp only [e155_0, e155_1, e155_2, e155_5, e155_8, e155_10, e155_11, e155_12, e155_13, e155_14, e155_17, e155_20, e155_22, e155_23, e155_24, e155_60, e155_61, e155_64, e155_65, e155_66, e155_69, e155_70, e155_71, e155_74, e155_75, e155_76, e155_79, e155_80, e155_81, e155_84, e155_85, e155_86, e155_89, e155_90, e155_91, e155_94, e155_95, e155_96, e155_99, e155_100, e155_101, e155_104, e155_105, e155_108, e155_109, e155_110, e155_113, e155_114, e155_115, e155_118, en_28, en_35, en_112, en_140, i_1, i_2, f_1_0, C_isProcess hpr hn1000, tw, C_within, e, K10_19 0 (by decide), D_of st_2 hp5, Nat.reduceEqDiff, Nat.reduceLT, Nat.reduceLeDiff, Nat.reduceAdd, Nat.reduceMul, one_n0, not_true_eq_false, not_false_eq_true, if_true, if_false, lvH_Hq, Option.bind_some, psh_i]
    rfl
  | 1, _ =>
    simp only [e155_0, e155_1, e155_2, e155_5, e155_8, e155_10, e155_11, e155_12, e155_13, e155_14, e155_17, e155_20, e155_22, e155_23, e155_24, e155_60, e155_61, e155_64, e155_65, e155_66, e155_69, e155_70, e155_71, e155_74, e155_75, e155_76, e155_79, e155_80, e155_81, e155_84, e155_85, e155_86, e155_89, e155_90, e155_91, e155_94, e155_95, e155_96, e155_99, e155_100, e155_101, e155_104, e155_105, e155_108, e155_109, e155_110, e155_113, e155_114, e155_115, e155_118, en_28, en_35, en_112, en_140, i_1, i_2, f_1_0, C_isProcess hpr hn1000, tw, C_within, e, K10_19 1 (by decide), D_of st_2 hp5, Nat.reduceEqDiff, Nat.reduceLT, Nat.reduceLeDiff, Nat.reduceAdd, Nat.reduceMul, one_n0, not_true_eq_false, not_false_eq_true, if_true, if_false, lvH_Hq, Option.bind_some, psh_i]
    rfl
  | 2, _ =>
    simp only [e155_0, e155_1, e155_2, e155_5, e155_8, e155_10, e155_11, e155_12, e155_13, e155_14, e155_17, e155_20, e155_22, e155_23, e155_24, e155_60, e155_61, e155_64, e155_65, e155_66, e155_69, e155_70, e155_71, e155_74, e155_75, e155_76, e155_79, e155_80, e155_81, e155_84, e155_85, e155_86, e155_89, e155_90, e155_91, e155_94, e155_95, e155_96, e155_99, e155_100, e155_101, e155_104, e155_105, e155_108, e155_109, e155_110, e155_113, e155_114, e155_115, e155_118, en_28, en_35, en_112, en_140, i_1, i_2, f_1_0, C_isProcess hpr hn1000, tw, C_within, e, K10_19 2 (by decide), D_of st_2 hp5, Nat.reduceEqDiff, Nat.reduceLT, Nat.reduceLeDiff, Nat.reduceAdd, Nat.reduceMul, one_n0, not_true_eq_false, not_false_eq_true, if_true, if_false, lvH_Hq, Option.bind_some, psh_i]
    rfl
  | 3, _ =>
    simp only [e155_0, e155_1, e155_2, e155_5, e155_8, e155_10, e155_11, e155_12, e155_13, e155_14, e155_17, e155_20, e155_22, e155_23, e155_24, e155_60, e155_61, e155_64, e155_65, e155_66, e155_69, e155_70, e155_71, e155_74, e155_75, e155_76, e155_79, e155_80, e155_81, e155_84, e155_85, e155_86, e155_89, e155_90, e155_91, e155_94, e155_95, e155_96, e155_99, e155_100, e155_101, e155_104, e155_105, e155_108, e155_109, e155_110, e155_113, e155_114, e155_115, e155_118, en_28, en_35, en_112, en_140, i_1, i_2, f_1_0, C_isProcess hpr hn1000, tw, C_within, e, K10_19 3 (by decide), D_of st_2 hp5, Nat.reduceEqDiff, Nat.reduceLT, Nat.reduceLeDiff, Nat.reduceAdd, Nat.reduceMul, one_n0, not_true_eq_false, not_false_eq_true, if_true, if_false, lvH_Hq, Option.bind_some, psh_i]
    rfl
  | 4, _ =>
    simp only [e155_0, e155_1, e155_2, e155_5, e155_8, e155_10, e155_11, e155_12, e155_13, e155_14, e155_17, e155_20, e155_22, e155_23, e155_24, e155_60, e155_61, e155_64, e155_65, e155_66, e155_69, e155_70, e155_71, e155_74, e155_75, e155_76, e155_79, e155_80, e155_81, e155_84, e155_85, e155_86, e155_89, e155_90, e155_91, e155_94, e155_95, e155_96, e155_99, e155_100, e155_101, e155_104, e155_105, e155_108, e155_109, e155_110, e155_113, e155_114, e155_115, e155_118, en_28, en_35, en_112, en_140, i_1, i_2, f_1_0, C_isProcess hpr hn1000, tw, C_within, e, K10_19 4 (by decide), D_choices st_2 hp5, Nat.reduceEqDiff, Nat.reduceLT, Nat.reduceLeDiff, Nat.reduceAdd, Nat.reduceMul, one_n0, not_true_eq_false, not_false_eq_true, if_true, if_false, lvH_Hq, Option.bind_some, psh_i]
    rfl
  | 5, _ =>
    simp only [e155_0, e155_1, e155_2, e155_5, e155_8, e155_10, e155_11, e155_12, e155_13, e155_14, e155_17, e155_20, e155_22, e155_23, e155_24, e155_60, e155_61, e155_64, e155_65, e155_66, e155_69, e155_70, e155_71, e155_74, e155_75, e155_76, e155_79, e155_80, e155_81, e155_84, e155_85, e155_86, e155_89, e155_90, e155_91, e155_94, e155_95, e155_96, e155_99, e155_100, e155_101, e155_104, e155_105, e155_108, e155_109, e155_110, e155_113, e155_114, e155_115, e155_118, en_28, en_35, en_112, en_140, i_1, i_2, f_1_0, C_isProcess hpr hn1000, tw, C_within, e, K10_19 5 (by decide), D_of st_2 hp5, Nat.reduceEqDiff, Nat.reduceLT, Nat.reduceLeDiff, Nat.reduceAdd, Nat.reduceMul, one_n0, not_true_eq_false, not_false_eq_true, if_true, if_false, lvH_Hq, Option.bind_some, psh_i]
    rfl
theorem C_act0 (I : Iv b po bs r n t N m) (R : Rl c m) (hx : ¬ Ix N x) (T : KT c k hc kp ic is sd bk ba bv g) : Den 180 [.ref 1, .int x, .int y] (HP L g) = some (some (-1000000001), HP L g) := by
  have h6 : c.H 6 = nI N := (R.1.1 6 (by omega)).trans I.1.2.2.1
  have hN := I.1.2.2.2.1
  rw [HP_3 (L := L) T.1, D0_180]
  simp only [e180_0, e180_1, e180_2, e180_5, e180_8, e180_10, e180_11, e180_12, e180_13, e180_15, e180_18, e180_21, e180_23, e180_24, e180_25, e180_26, e180_29, e180_30, e180_33, e180_34, e180_35, e180_38, e180_39, e180_40, e180_43, e180_44, e180_47, e180_48, e180_51, e180_54, e180_55, e180_56, e180_57, e180_58, e180_61, e180_62, e180_65, e180_66, e180_69, e180_70, e180_73, e180_76, e180_77, e180_80, e180_81, e180_84, e180_85, e180_88, e180_89, e180_90, e180_93, e180_94, e180_97, e180_98, en_29, en_35, en_76, en_99, en_149, en_164, i_1, C_isAct h6 (show N < 1000 by omega), b2c_f hx, zz, not_true_eq_false, if_false, lvH_Hq, Option.bind_some, psh_i]
theorem C_act1 (I : Iv b po bs r n t N m) (R : Rl c m) {a : Nat} (ha : a < N) (hy : ∀ w, w < 7 → ¬ y = nI w) (T : KT c k hc kp ic is sd bk ba bv g) : Den 180 [.ref 1, .int (nI a), .int y] (HP L g) = some (some (-1000000002), HP L g) := by
  have h6 : c.H 6 = nI N := (R.1.1 6 (by omega)).trans I.1.2.2.1
  have hN := I.1.2.2.2.1
  have e : b2 (nI 0 ≤ y ∧ y ≤ nI 6) = nI 0 := if_neg (fun z => by
    obtain ⟨j, -, h2, e⟩ := (rng_n (by omega) (by omega)).mp z
    exact hy j (by omega) e)
  rw [HP_3 (L := L) T.1, D0_180]
  simp only [e180_0, e180_1, e180_2, e180_5, e180_8, e180_10, e180_11, e180_12, e180_13, e180_15, e180_18, e180_21, e180_23, e180_24, e180_25, e180_26, e180_29, e180_30, e180_33, e180_34, e180_35, e180_38, e180_39, e180_40, e180_43, e180_44, e180_47, e180_48, e180_51, e180_54, e180_55, e180_56, e180_57, e180_58, e180_61, e180_62, e180_65, e180_66, e180_69, e180_70, e180_73, e180_76, e180_77, e180_80, e180_81, e180_84, e180_85, e180_88, e180_89, e180_90, e180_93, e180_94, e180_97, e180_98, en_29, en_35, en_76, en_99, en_149, en_164, i_1, C_isAct h6 (show N < 1000 by omega), b2c_t (show Ix N (nI a) from ⟨a, ha, rfl⟩), C_within, e, one_n0, zz, not_true_eq_false, not_false_eq_true, if_true, if_false, lvH_Hq, Option.bind_some, psh_i]
theorem hJd_m (R : Rl c m) {a : Nat} : hJd c a ↔ hJm m a := by
  unfold hJd hJm
  rw [hyEq R.1, wrs_R R.1]
theorem C_act (I : Iv b po bs r n t N m) (R : Rl c m) {a w : Nat} (ha : a < N) (hw : w < 7) (T : KT c k hc kp ic is sd bk ba bv g) : Den 180 [.ref 1, .int (nI a), .int (nI w)] (HP L g) = some (some (acM m N a w), HP L g) := by
  have h6 : c.H 6 = nI N := (R.1.1 6 (by omega)).trans I.1.2.2.1
  have hN := I.1.2.2.2.1
  have ha7 : a < 7 := by omega
  have e : b2 (nI 0 ≤ nI w ∧ nI w ≤ nI 6) = nI 1 := if_pos ((rng_n (by omega) (by omega)).mpr ⟨w, by omega, by omega, rfl⟩)
  have tw := b2c_t (show Ix N (nI a) from ⟨a, ha, rfl⟩)
  have hn1000 : N < 1000 := by omega
  obtain ⟨q0, q1, q2, q3, q4⟩ := R.1.2.2 a
  have k4 : ∀ w, w < 5 → ¬ nI 4 < nI w := fun w h => nI_nlt (by omega) (by omega)
  have k5 : ∀ w, w < 7 → 4 < w → nI 4 < nI w := fun w h h2 => nI_lt h2 (by omega)
  have hy := hyEq R.1
  have dj := D_judges (L := L) (g := g) (s := c) (x := 4) st_2 ha7
  have ds := D_safe (L := L) (g := g) (x := 4) st_2 h6 (by omega) ha7
  have dr := D_regular (L := L) (g := g) (x := 4) st_2 h6 (by omega) ha7
  rw [hy] at ds dr
  rw [HP_3 (L := L) T.1, D0_180]
  match w, hw with
  | 0, _ =>
    simp only [e180_0, e180_1, e180_2, e180_5, e180_8, e180_10, e180_11, e180_12, e180_13, e180_15, e180_18, e180_21, e180_23, e180_24, e180_25, e180_26, e180_29, e180_30, e180_33, e180_34, e180_35, e180_38, e180_39, e180_40, e180_43, e180_44, e180_47, e180_48, e180_51, e180_54, e180_55, e180_56, e180_57, e180_58, e180_61, e180_62, e180_65, e180_66, e180_69, e180_70, e180_73, e180_76, e180_77, e180_80, e180_81, e180_84, e180_85, e180_88, e180_89, e180_90, e180_93, e180_94, e180_97, e180_98, en_29, en_35, en_76, en_99, en_149, en_164, i_1, i_2, f_1_0, C_isAct h6 hn1000, tw, C_within, e, k4 0 (by omega), D_ofAct st_2 ha7, Nat.reduceLT, Nat.reduceLeDiff, Nat.reduceAdd, Nat.reduceMul, one_n0, not_true_eq_false, not_false_eq_true, if_true, if_false, lvH_Hq, Option.bind_some, psh_i, q0]
    rfl
  | 1, _ =>
    simp only [e180_0, e180_1, e180_2, e180_5, e180_8, e180_10, e180_11, e180_12, e180_13, e180_15, e180_18, e180_21, e180_23, e180_24, e180_25, e180_26, e180_29, e180_30, e180_33, e180_34, e180_35, e180_38, e180_39, e180_40, e180_43, e180_44, e180_47, e180_48, e180_51, e180_54, e180_55, e180_56, e180_57, e180_58, e180_61, e180_62, e180_65, e180_66, e180_69, e180_70, e180_73, e180_76, e180_77, e180_80, e180_81, e180_84, e180_85, e180_88, e180_89, e180_90, e180_93, e180_94, e180_97, e180_98, en_29, en_35, en_76, en_99, en_149, en_164, i_1, i_2, f_1_0, C_isAct h6 hn1000, tw, C_within, e, k4 1 (by omega), D_ofAct st_2 ha7, Nat.reduceLT, Nat.reduceLeDiff, Nat.reduceAdd, Nat.reduceMul, one_n0, not_true_eq_false, not_false_eq_true, if_true, if_false, lvH_Hq, Option.bind_some, psh_i, q1]
    rfl
  | 2, _ =>
    simp only [e180_0, e180_1, e180_2, e180_5, e180_8, e180_10, e180_11, e180_12, e180_13, e180_15, e180_18, e180_21, e180_23, e180_24, e180_25, e180_26, e180_29, e180_30, e180_33, e180_34, e180_35, e180_38, e180_39, e180_40, e180_43, e180_44, e180_47, e180_48, e180_51, e180_54, e180_55, e180_56, e180_57, e180_58, e180_61, e180_62, e180_65, e180_66, e180_69, e180_70, e180_73, e180_76, e180_77, e180_80, e180_81, e180_84, e180_85, e180_88, e180_89, e180_90, e180_93, e180_94, e180_97, e180_98, en_29, en_35, en_76, en_99, en_149, en_164, i_1, i_2, f_1_0, C_isAct h6 hn1000, tw, C_within, e, k4 2 (by omega), D_ofAct st_2 ha7, Nat.reduceLT, Nat.reduceLeDiff, Nat.reduceAdd, Nat.reduceMul, one_n0, not_true_eq_false, not_false_eq_true, if_true, if_false, lvH_Hq, Option.bind_some, psh_i, q2]
    rfl
  | 3, _ =>
    simp only [e180_0, e180_1, e180_2, e180_5, e180_8, e180_10, e180_11, e180_12, e180_13, e180_15, e180_18, e180_21, e180_23, e180_24, e180_25, e180_26, e180_29, e180_30, e180_33, e180_34, e180_35, e180_38, e180_39, e180_40, e180_43, e180_44, e180_47, e180_48, e180_51, e180_54, e180_55, e180_56, e180_57, e180_58, e180_61, e180_62, e180_65, e180_66, e180_69, e180_70, e180_73, e180_76, e180_77, e180_80, e180_81, e180_84, e180_85, e180_88, e180_89, e180_90, e180_93, e180_94, e180_97, e180_98, en_29, en_35, en_76, en_99, en_149, en_164, i_1, i_2, f_1_0, C_isAct h6 hn1000, tw, C_within, e, k4 3 (by omega), D_ofAct st_2 ha7, Nat.reduceLT, Nat.reduceLeDiff, Nat.reduceAdd, Nat.reduceMul, one_n0, not_true_eq_false, not_false_eq_true, if_true, if_false, lvH_Hq, Option.bind_some, psh_i, q3]
    rfl
  | 4, _ =>
    simp only [e180_0, e180_1, e180_2, e180_5, e180_8, e180_10, e180_11, e180_12, e180_13, e180_15, e180_18, e180_21, e180_23, e180_24, e180_25, e180_26, e180_29, e180_30, e180_33, e180_34, e180_35, e180_38, e180_39, e180_40, e180_43, e180_44, e180_47, e180_48, e180_51, e180_54, e180_55, e180_56, e180_57, e180_58, e180_61, e180_62, e180_65, e180_66, e180_69, e180_70, e180_73, e180_76, e180_77, e180_80, e180_81, e180_84, e180_85, e180_88, e180_89, e180_90, e180_93, e180_94, e180_97, e180_98, en_29, en_35, en_76, en_99, en_149, en_164, i_1, i_2, f_1_0, C_isAct h6 hn1000, tw, C_within, e, k4 4 (by omega), D_ofAct st_2 ha7, Nat.reduceLT, Nat.reduceLeDiff, Nat.reduceAdd, Nat.reduceMul, one_n0, not_true_eq_false, not_false_eq_true, if_true, if_false, lvH_Hq, Option.bind_some, psh_i, q4]
    rfl
  | 5, _ =>
    have ea : acM m N a 5 = if hJm m a then b2 (hSf (hyM m) N a) else -1 := rfl
    rw [ea]
    by_cases hj : hJm m a
    · have ej : b2 (hJd c a) = nI 1 := if_pos ((hJd_m R).mpr hj)
      rw [ej] at dj
      rw [if_pos hj]
      simp only [e180_0, e180_1, e180_2, e180_5, e180_8, e180_10, e180_11, e180_12, e180_13, e180_15, e180_18, e180_21, e180_23, e180_24, e180_25, e180_26, e180_29, e180_30, e180_33, e180_34, e180_35, e180_38, e180_39, e180_40, e180_43, e180_44, e180_47, e180_48, e180_51, e180_54, e180_55, e180_56, e180_57, e180_58, e180_61, e180_62, e180_65, e180_66, e180_69, e180_70, e180_73, e180_76, e180_77, e180_80, e180_81, e180_84, e180_85, e180_88, e180_89, e180_90, e180_93, e180_94, e180_97, e180_98, en_29, en_35, en_76, en_99, en_149, en_164, i_1, i_2, i_4, f_1_0, f_1_1, C_isAct h6 hn1000, tw, C_within, e, k5 5 (by omega) (by omega), dj, ds, one_n0, not_true_eq_false, not_false_eq_true, if_true, if_false, lvH_Hq, Option.bind_some, psh_i]
      by_cases z : hSf (hyM m) N a
      · have ez : b2 (hSf (hyM m) N a) = nI 1 := if_pos z
        rw [ez, if_neg (show ¬ nI 1 = 0 by decide)]
      · have ez : b2 (hSf (hyM m) N a) = nI 0 := if_neg z
        rw [ez, if_pos (show nI 0 = 0 from rfl)]
    · have ej : b2 (hJd c a) = nI 0 := if_neg (fun z => hj ((hJd_m R).mp z))
      rw [ej] at dj
      rw [if_neg hj]
      simp only [e180_0, e180_1, e180_2, e180_5, e180_8, e180_10, e180_11, e180_12, e180_13, e180_15, e180_18, e180_21, e180_23, e180_24, e180_25, e180_26, e180_29, e180_30, e180_33, e180_34, e180_35, e180_38, e180_39, e180_40, e180_43, e180_44, e180_47, e180_48, e180_51, e180_54, e180_55, e180_56, e180_57, e180_58, e180_61, e180_62, e180_65, e180_66, e180_69, e180_70, e180_73, e180_76, e180_77, e180_80, e180_81, e180_84, e180_85, e180_88, e180_89, e180_90, e180_93, e180_94, e180_97, e180_98, en_29, en_35, en_76, en_99, en_149, en_164, i_1, i_2, i_4, f_1_0, f_1_1, C_isAct h6 hn1000, tw, C_within, e, k5 5 (by omega) (by omega), dj, one_n0, zz, not_true_eq_false, not_false_eq_true, if_true, if_false, lvH_Hq, Option.bind_some, psh_i]
  | 6, _ =>
    have ea : acM m N a 6 = if hJm m a then b2 (¬ hGs (hyM m) N a = -1) else -1 := rfl
    have k65 : ¬ nI 6 = nI 5 := by decide
    rw [ea]
    by_cases hj : hJm m a
    · have ej : b2 (hJd c a) = nI 1 := if_pos ((hJd_m R).mpr hj)
      rw [ej] at dj
      rw [if_pos hj]
      simp only [e180_0, e180_1, e180_2, e180_5, e180_8, e180_10, e180_11, e180_12, e180_13, e180_15, e180_18, e180_21, e180_23, e180_24, e180_25, e180_26, e180_29, e180_30, e180_33, e180_34, e180_35, e180_38, e180_39, e180_40, e180_43, e180_44, e180_47, e180_48, e180_51, e180_54, e180_55, e180_56, e180_57, e180_58, e180_61, e180_62, e180_65, e180_66, e180_69, e180_70, e180_73, e180_76, e180_77, e180_80, e180_81, e180_84, e180_85, e180_88, e180_89, e180_90, e180_93, e180_94, e180_97, e180_98, en_29, en_35, en_76, en_99, en_149, en_164, i_1, i_2, i_4, f_1_0, f_1_1, C_isAct h6 hn1000, tw, C_within, e, k5 6 (by omega) (by omega), dj, dr, k65, one_n0, not_true_eq_false, not_false_eq_true, if_true, if_false, lvH_Hq, Option.bind_some, psh_i]
      by_cases z : ¬ hGs (hyM m) N a = -1
      · have ez : b2 (¬ hGs (hyM m) N a = -1) = nI 1 := if_pos z
        rw [ez, if_neg (show ¬ nI 1 = 0 by decide)]
      · have ez : b2 (¬ hGs (hyM m) N a = -1) = nI 0 := if_neg z
        rw [ez, if_pos (show nI 0 = 0 from rfl)]
    · have ej : b2 (hJd c a) = nI 0 := if_neg (fun z => hj ((hJd_m R).mp z))
      rw [ej] at dj
      rw [if_neg hj]
      simp only [e180_0, e180_1, e180_2, e180_5, e180_8, e180_10, e180_11, e180_12, e180_13, e180_15, e180_18, e180_21, e180_23, e180_24, e180_25, e180_26, e180_29, e180_30, e180_33, e180_34, e180_35, e180_38, e180_39, e180_40, e180_43, e180_44, e180_47, e180_48, e180_51, e180_54, e180_55, e180_56, e180_57, e180_58, e180_61, e180_62, e180_65, e180_66, e180_69, e180_70, e180_73, e180_76, e180_77, e180_80, e180_81, e180_84, e180_85, e180_88, e180_89, e180_90, e180_93, e180_94, e180_97, e180_98, en_29, en_35, en_76, en_99, en_149, en_164, i_1, i_2, i_4, f_1_0, f_1_1, C_isAct h6 hn1000, tw, C_within, e, k5 6 (by omega) (by omega), dj, one_n0, zz, not_true_eq_false, not_false_eq_true, if_true, if_false, lvH_Hq, Option.bind_some, psh_i]
end RR
